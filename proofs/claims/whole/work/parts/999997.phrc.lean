/-! THE TONGUE: the class reads a phrase (in part written by program). -/
def stpC (x : Nat × Nat) : Int32 := if x.1 = 0 then nI x.2 else if x.1 = 1 then 7 else if x.1 = 2 then 4 else if x.1 = 3 then 5 else if x.1 = 4 then 6 else if x.1 = 5 then nI (9 + x.2) else 8
def stkC (I : FI) : List (Nat × Nat) → Prop
  | [] => True
  | x :: t => I 144 0 t.length = stpC x ∧ stkC I t
theorem stkC.keep {I J : FI} : ∀ cs, (∀ j, j < cs.length → J 144 0 j = I 144 0 j) → stkC I cs → stkC J cs
  | [], _, _ => trivial
  | x :: t, h, g => ⟨(h t.length (by rw [List.length_cons]; omega)).trans g.1, stkC.keep t (fun j hj => h j (by rw [List.length_cons]; omega)) g.2⟩
/-- but for the token, its fault and the steps all is kept -/
def FxP (I J : FI) : Prop := ∀ a r j, (a = 102 → j < 2 ∨ 7 < j) → (a = 143 → j ≠ 3) → a ≠ 144 → J a r j = I a r j
theorem FxP.rfl' {I : FI} : FxP I I := fun _ _ _ _ _ _ => rfl
theorem FxP.tr {I J M : FI} (h : FxP I J) (h2 : FxP J M) : FxP I M := fun a r j q1 q2 q3 => (h2 a r j q1 q2 q3).trans (h a r j q1 q2 q3)
theorem Fx.p {I J : FI} (h : Fx I J) : FxP I J := fun a r j q _ _ => h a r j (fun e => by have := q e; omega)
theorem FxP.fl {I J : FI} (h : FxP I J) {k p : Nat} : FxP I (flC J k p) := fun a r j q1 q2 q3 => by
  unfold flC
  rw [up3_o (fun g => by have := q1 g.1; omega), up3_o (fun g => by have := q1 g.1; omega)]
  exact h a r j q1 q2 q3
section PhrC
variable {B : Nat → Nat} {n N wn : Nat} {wl : Nat → Nat} {d nn : Nat} {I J : FI} {L : FL} {P : FR} {E : FE} {c s p : Nat} {cs : List (Nat × Nat)}
/-- the class in the midst of a phrase -/
def StC (B : Nat → Nat) (n : Nat) (I : FI) (p : Nat) (cs : List (Nat × Nat)) : Prop := TxC B n I ∧ TkC B n I p ∧ I 143 0 3 = nI cs.length ∧ stkC I cs ∧ I 102 0 7 = -1
def LdC (N wn : Nat) (wl : Nat → Nat) (I : FI) : Prop := I 103 0 0 = nI N ∧ N ≤ 4 ∧ I 103 0 2 = nI wn ∧ wn ≤ 6 ∧ ∀ w, w < wn → I 106 0 w = nI (wl w) ∧ wl w < 16
theorem LdC.fx (h : LdC N wn wl I) (f : FxP I J) : LdC N wn wl J := ⟨(f 103 0 0 (fun e => absurd e (by decide)) (fun e => absurd e (by decide)) (by decide)).trans h.1, h.2.1, (f 103 0 2 (fun e => absurd e (by decide)) (fun e => absurd e (by decide)) (by decide)).trans h.2.2.1, h.2.2.2.1, fun w hw => ⟨(f 106 0 w (fun e => absurd e (by decide)) (fun e => absurd e (by decide)) (by decide)).trans (h.2.2.2.2 w hw).1, (h.2.2.2.2 w hw).2⟩⟩
def PoC (B : Nat → Nat) (n : Nat) (r : Rs) (v : Int32) (J : FI) : Prop := match r with
  | .inl (k, q) => v = -1 ∧ J 102 0 6 = nI k ∧ J 102 0 7 = nI q
  | .inr (p1, c1, A, W) => v = nI (A + 16 * W) ∧ StC B n J p1 c1
/-- a method that reads a part -/
def CtC (B : Nat → Nat) (n N wn : Nat) (wl : Nat → Nat) (dd m o : Nat) (f : Nat → List (Nat × Nat) → Rs) : Prop := ∀ (nn : Nat) (L : FL) (P : FR) (E : FE) (c s p : Nat) (cs : List (Nat × Nat)) (I : FI), StC B n I p cs → LdC N wn wl I → blB B n p = false → cs.length ≤ p → ∃ (v : Int32) (J : FI), V PR dd m 0 [(0, vR (some (143, 0))), (1, vi (nI o))] [] (mm nn I L P E c s) = some (.inl (some (vi v)), mm nn J L P E c s) ∧ PoC B n (f p cs) v J ∧ FxP I J
theorem TkC.fx (h : TkC B n I p) (f : ∀ j, J 102 0 j = I 102 0 j) : TkC B n J p := by
  unfold TkC
  rw [f, f, f, f]
  exact h
/-- a step is put -/
def putC (I : FI) (k : Nat) (x : Int32) : FI := up3 (up3 I 144 0 k x) 143 0 3 (nI (k + 1))
theorem c_step {k : Nat} (hk : k < 150) (h : I 143 0 3 = nI k) (x : Int32) : V PR d 73 0 [(0, vR (some (143, 0))), (1, vi x)] [] (mm nn I L P E c s) = some (.inl none, mm nn (putC I k x) L P E c s) := by
  rw [k_X6_put_0, h, show decide ((150 : Int32) ≤ nI k) = false from (nI_led (a := 150) (by decide) (by omega)).trans (decide_eq_false (by omega)), cond_false, inb_nI hk (by decide), cond_true, nI_clamp (by omega), up3_a (by decide), h, nI_1]
  rfl
theorem FxP.put (h : FxP I J) {k : Nat} {x : Int32} : FxP I (putC J k x) := fun a r j q1 q2 q3 => by
  unfold putC
  rw [up3_o (fun g => q2 g.1 g.2.2), up3_o (fun g => q3 g.1)]
  exact h a r j q1 q2 q3
theorem StC.put (h : StC B n I p cs) {x : Nat × Nat} : StC B n (putC I cs.length (stpC x)) p (x :: cs) := by
  obtain ⟨h1, h2, h3, h4, h5⟩ := h
  have f : ∀ a r j, a ≠ 143 → a ≠ 144 → (putC I cs.length (stpC x)) a r j = I a r j := fun a r j q1 q2 => by
    unfold putC
    rw [up3_a q1, up3_a q2]
  refine ⟨⟨h1.1, (f 102 0 1 (by decide) (by decide)).trans h1.2.1, h1.2.2.1, fun k hk => (f 101 0 k (by decide) (by decide)).trans (h1.2.2.2 k hk)⟩, h2.fx (fun j => f 102 0 j (by decide) (by decide)), ?_, ⟨?_, ?_⟩, (f 102 0 7 (by decide) (by decide)).trans h5⟩
  · unfold putC
    rw [up3_i, List.length_cons]
  · unfold putC
    rw [up3_a (by decide), up3_i]
  · refine stkC.keep cs (fun j hj => ?_) h4
    unfold putC
    rw [up3_a (by decide), up3_k (by omega)]
theorem StC.next (h : StC B n I p cs) : ∃ J : FI, V PR d 120 0 [(0, vR (some (102, 0)))] [] (mm nn I L P E c s) = some (.inl none, mm nn J L P E c s) ∧ StC B n J (sk B n (enT B n p)) cs ∧ Fx I J := by
  obtain ⟨h1, h2, h3, h4, h5⟩ := h
  obtain ⟨J, r1, k1, f1⟩ := c_next (d := d) (nn := nn) (L := L) (P := P) (E := E) (c := c) (s := s) h1 (en_le h2.1) h2.2.2.2.1
  exact ⟨J, r1, ⟨h1.fx f1, k1, (f1 143 0 3 (fun e => absurd e (by decide))).trans h3, stkC.keep cs (fun j _ => f1 144 0 j (fun e => absurd e (by decide))) h4, (f1 102 0 7 (fun _ => by decide)).trans h5⟩, f1⟩
theorem en_sg {w : Nat} (h : sgB B n p w = true) : enT B n p = p + 1 := by
  obtain ⟨g1, -⟩ := sg_lt h
  unfold sgB at h
  rw [Bool.and_eq_true] at h
  have h1 := of_decide_eq_true h.1
  unfold kdT at h1
  unfold enT
  rw [if_neg (by omega)] at h1 ⊢
  by_cases q : smB B n p = true
  · rw [if_pos q] at h1; cases h1
  · rw [if_neg q] at h1 ⊢
    by_cases q2 : dgB B n p = true
    · rw [if_pos q2] at h1; cases h1
    · rw [if_neg q2]
theorem or_AW {A W A1 W1 : Nat} (h : A < 16) (h1 : A1 < 16) (h2 : W < 64) (h3 : W1 < 64) : nI (A + 16 * W) ||| nI (A1 + 16 * W1) = nI ((A ||| A1) + 16 * (W ||| W1)) := by
  have e : ∀ a b, a < 16 → a + 16 * b = 2 ^ 4 * b ||| a := fun a b ha => by
    rw [Nat.add_comm, show 16 * b = 2 ^ 4 * b from rfl]
    exact Nat.two_pow_add_eq_or_of_lt ha b
  apply Int32.toBitVec_inj.mp
  apply BitVec.eq_of_toNat_eq
  have o1 := or16 h h1
  have o2 := or64 h2 h3
  rw [Int32.toBitVec_or, BitVec.toNat_or, pk_tn (by omega), pk_tn (by omega), pk_tn (by omega), e A W h, e A1 W1 h1, e (A ||| A1) (W ||| W1) o1]
  apply Nat.eq_of_testBit_eq
  intro i
  simp only [Nat.testBit_or, Nat.testBit_two_pow_mul]
  cases decide (i ≥ 4) <;> cases A.testBit i <;> cases A1.testBit i <;> cases W.testBit (i - 4) <;> cases W1.testBit (i - 4) <;> rfl
theorem ge0 {x : Nat} (h : x < 2 ^ 31) : decide ((0 : Int32) ≤ nI x) = true := decide_eq_true (nI_pos' h)
theorem lt0 {x : Nat} (h : x < 2 ^ 31) : decide (nI x < (0 : Int32)) = false := decide_eq_false (nI_pos h)
theorem m1_ge : decide ((0 : Int32) ≤ -1) = false := by decide +kernel
theorem m1_lt : decide ((-1 : Int32) < 0) = true := by decide +kernel

theorem lp_75 {dd o : Nat} {one : Nat → List (Nat × Nat) → Rs} (h150 : n ≤ 150) (ho : CtC B n N wn wl (dd + 1) 76 o one) (hg : GRs B n N wn one) {q : Nat} {bs : List (Nat × Nat)} : ∀ r i p cs A W (I : FI), i + r = 150 → GR B n N wn q bs (.inr (p, cs, A, W)) → StC B n I p cs → LdC N wn wl I → cs.length ≤ p → ∃ (v : Int32) (J : FI), V PR (dd + 2) 75 8 [(0, vR (some (143, 0))), (1, vi (nI o)), (2, vi (nI (A + 16 * W))), (3, vi (nI i))] [] (mm nn I L P E c s) = some (.inl (some (vi v)), mm nn J L P E c s) ∧ PoC B n (lpR B n 12 2 one r p cs A W) v J ∧ FxP I J
  | 0, i, p, cs, A, W, I, hi, hG, hS, hL, hl => by
    refine ⟨_, I, ?_, ⟨rfl, hS⟩, FxP.rfl'⟩
    rw [k_X6_readAll_8, show decide ((150 : Int32) ≤ nI i) = true from (nI_led (a := 150) (by decide) (by omega)).trans (decide_eq_true (by omega)), cond_true]
  | r + 1, i, p, cs, A, W, I, hi, hG, hS, hL, hl => by
    obtain ⟨a1, a2, a3, a4, a5, a6, a7, a8⟩ := id hG
    have w := cw_12 (d := dd + 1) (nn := nn) (L := L) (P := P) (E := E) (c := c) (s := s) hS.1 hS.2.1
    unfold lpR
    rw [k_X6_readAll_8, show decide ((150 : Int32) ≤ nI i) = false from (nI_led (a := 150) (by decide) (by omega)).trans (decide_eq_false (by omega)), cond_false, lt0 (by omega), cond_false, w, Vk_v, k_X6_readAll_28, b2i_eq0]
    cases hi2 : isW B n p (prgT 12) with
    | false =>
      rw [Bool.not_false, cond_true, cond_false]
      exact ⟨_, I, rfl, ⟨rfl, hS⟩, FxP.rfl'⟩
    | true =>
      obtain ⟨g1, g2, g3⟩ := isW_wd hi2 (by decide +kernel)
      have g4 := wd_le (B := B) (n := n) (p := p) a2
      have g6 := sk_ge (B := B) (n := n) (wd B n p)
      obtain ⟨J1, r1, s1, f1⟩ := hS.next (d := dd + 1) (nn := nn) (L := L) (P := P) (E := E) (c := c) (s := s)
      rw [en_w g1] at s1
      obtain ⟨v2, J2, r2, s2, f2⟩ := ho nn L P E c s _ cs J1 s1 (hL.fx f1.p) (sk_bl _) (by omega)
      have gg := hg (sk B n (wd B n p)) cs (sk_le g4) (sk_bl _)
      rw [Bool.not_true, cond_false, cond_true, r1, Vk_n, k_X6_readAll_38, r2, Vk_v, k_X6_readAll_43]
      cases hr : one (sk B n (wd B n p)) cs with
      | inl x =>
        obtain ⟨k, z⟩ := x
        rw [hr] at s2
        refine ⟨-1, J2, ?_, ⟨rfl, s2.2⟩, f1.p.tr f2⟩
        rw [s2.1, m1_ge, cond_false]
      | inr x =>
        obtain ⟨p1, c1, A1, W1⟩ := x
        rw [hr] at s2 gg
        obtain ⟨e1, e2, e3, e4, e5, e6, e7, e8⟩ := id gg
        obtain ⟨s3, s4⟩ := s2
        have G1 : GR B n N wn q bs (.inr (p1, (2, 0) :: c1, A ||| A1, W ||| W1)) := by
          have := GR.or (one := one) 2 12 (by decide +kernel) (by decide) hg 1 p cs A W hG
          unfold lpR at this
          rw [hi2, cond_true, hr] at this
          exact this
        have hp : stpC (2, 0) = (4 : Int32) := rfl
        have S5 := s4.put (x := (2, 0))
        rw [hp] at S5
        obtain ⟨v6, J6, r6, s6, f6⟩ := lp_75 h150 ho hg r (i + 1) p1 ((2, 0) :: c1) (A ||| A1) (W ||| W1) (putC J2 c1.length 4) (by omega) G1 S5 (hL.fx ((f1.p.tr f2).put)) (by rw [List.length_cons]; omega)
        refine ⟨v6, J6, ?_, s6, ((f1.p.tr f2).put).tr f6⟩
        rw [s3, ge0 (by omega), cond_true, c_step (by omega) s4.2.2.1, Vk_n, k_X6_readAll_57, or_AW a6 e6 a7 e7, nI_1]
        exact r6
theorem CtC.m75 {dd o : Nat} {one : Nat → List (Nat × Nat) → Rs} (h150 : n ≤ 150) (ho : CtC B n N wn wl (dd + 1) 76 o one) (hg : GRs B n N wn one) : CtC B n N wn wl (dd + 2) 75 o (fun p cs => bnd (one p cs) (fun p1 c1 A W => lpR B n 12 2 one 150 p1 c1 A W)) := fun nn L P E c s p cs I hS hL hb hl => by
  obtain ⟨v2, J2, r2, s2, f2⟩ := ho nn L P E c s p cs I hS hL hb hl
  have gg := hg p cs hS.2.1.1 hb
  show ∃ (v : Int32) (J : FI), _ ∧ PoC B n (bnd (one p cs) (fun p1 c1 A W => lpR B n 12 2 one 150 p1 c1 A W)) v J ∧ FxP I J
  rw [k_X6_readAll_0, r2, Vk_v, k_X6_readAll_5]
  cases hr : one p cs with
  | inl x =>
    obtain ⟨k, z⟩ := x
    rw [hr] at s2
    refine ⟨-1, J2, ?_, ⟨rfl, s2.2⟩, f2⟩
    rw [s2.1, k_X6_readAll_8, show decide ((150 : Int32) ≤ 0) = false by decide +kernel, cond_false, m1_lt, cond_true]
  | inr x =>
    obtain ⟨p1, c1, A1, W1⟩ := x
    rw [hr] at s2 gg
    obtain ⟨s3, s4⟩ := s2
    obtain ⟨e1, e2, e3, e4, e5, e6, e7, e8⟩ := id gg
    obtain ⟨v6, J6, r6, s6, f6⟩ := lp_75 (nn := nn) (L := L) (P := P) (E := E) (c := c) (s := s) h150 ho hg 150 0 p1 c1 A1 W1 J2 rfl gg s4 (hL.fx f2) (by omega)
    exact ⟨v6, J6, by rw [s3]; exact r6, s6, f2.tr f6⟩

theorem lp_74 {dd o : Nat} {one : Nat → List (Nat × Nat) → Rs} (h150 : n ≤ 150) (ho : CtC B n N wn wl (dd + 1) 75 o one) (hg : GRs B n N wn one) {q : Nat} {bs : List (Nat × Nat)} : ∀ r i p cs A W (I : FI), i + r = 150 → GR B n N wn q bs (.inr (p, cs, A, W)) → StC B n I p cs → LdC N wn wl I → cs.length ≤ p → ∃ (v : Int32) (J : FI), V PR (dd + 2) 74 8 [(0, vR (some (143, 0))), (1, vi (nI o)), (2, vi (nI (A + 16 * W))), (3, vi (nI i))] [] (mm nn I L P E c s) = some (.inl (some (vi v)), mm nn J L P E c s) ∧ PoC B n (lpR B n 11 3 one r p cs A W) v J ∧ FxP I J
  | 0, i, p, cs, A, W, I, hi, hG, hS, hL, hl => by
    refine ⟨_, I, ?_, ⟨rfl, hS⟩, FxP.rfl'⟩
    rw [k_X6_readAny_8, show decide ((150 : Int32) ≤ nI i) = true from (nI_led (a := 150) (by decide) (by omega)).trans (decide_eq_true (by omega)), cond_true]
  | r + 1, i, p, cs, A, W, I, hi, hG, hS, hL, hl => by
    obtain ⟨a1, a2, a3, a4, a5, a6, a7, a8⟩ := id hG
    have w := cw_11 (d := dd + 1) (nn := nn) (L := L) (P := P) (E := E) (c := c) (s := s) hS.1 hS.2.1
    unfold lpR
    rw [k_X6_readAny_8, show decide ((150 : Int32) ≤ nI i) = false from (nI_led (a := 150) (by decide) (by omega)).trans (decide_eq_false (by omega)), cond_false, lt0 (by omega), cond_false, w, Vk_v, k_X6_readAny_28, b2i_eq0]
    cases hi2 : isW B n p (prgT 11) with
    | false =>
      rw [Bool.not_false, cond_true, cond_false]
      exact ⟨_, I, rfl, ⟨rfl, hS⟩, FxP.rfl'⟩
    | true =>
      obtain ⟨g1, g2, g3⟩ := isW_wd hi2 (by decide +kernel)
      have g4 := wd_le (B := B) (n := n) (p := p) a2
      have g6 := sk_ge (B := B) (n := n) (wd B n p)
      obtain ⟨J1, r1, s1, f1⟩ := hS.next (d := dd + 1) (nn := nn) (L := L) (P := P) (E := E) (c := c) (s := s)
      rw [en_w g1] at s1
      obtain ⟨v2, J2, r2, s2, f2⟩ := ho nn L P E c s _ cs J1 s1 (hL.fx f1.p) (sk_bl _) (by omega)
      have gg := hg (sk B n (wd B n p)) cs (sk_le g4) (sk_bl _)
      rw [Bool.not_true, cond_false, cond_true, r1, Vk_n, k_X6_readAny_38, r2, Vk_v, k_X6_readAny_43]
      cases hr : one (sk B n (wd B n p)) cs with
      | inl x =>
        obtain ⟨k, z⟩ := x
        rw [hr] at s2
        refine ⟨-1, J2, ?_, ⟨rfl, s2.2⟩, f1.p.tr f2⟩
        rw [s2.1, m1_ge, cond_false]
      | inr x =>
        obtain ⟨p1, c1, A1, W1⟩ := x
        rw [hr] at s2 gg
        obtain ⟨e1, e2, e3, e4, e5, e6, e7, e8⟩ := id gg
        obtain ⟨s3, s4⟩ := s2
        have G1 : GR B n N wn q bs (.inr (p1, (3, 0) :: c1, A ||| A1, W ||| W1)) := by
          have := GR.or (one := one) 3 11 (by decide +kernel) (by decide) hg 1 p cs A W hG
          unfold lpR at this
          rw [hi2, cond_true, hr] at this
          exact this
        have hp : stpC (3, 0) = (5 : Int32) := rfl
        have S5 := s4.put (x := (3, 0))
        rw [hp] at S5
        obtain ⟨v6, J6, r6, s6, f6⟩ := lp_74 h150 ho hg r (i + 1) p1 ((3, 0) :: c1) (A ||| A1) (W ||| W1) (putC J2 c1.length 5) (by omega) G1 S5 (hL.fx ((f1.p.tr f2).put)) (by rw [List.length_cons]; omega)
        refine ⟨v6, J6, ?_, s6, ((f1.p.tr f2).put).tr f6⟩
        rw [s3, ge0 (by omega), cond_true, c_step (by omega) s4.2.2.1, Vk_n, k_X6_readAny_57, or_AW a6 e6 a7 e7, nI_1]
        exact r6
theorem CtC.m74 {dd o : Nat} {one : Nat → List (Nat × Nat) → Rs} (h150 : n ≤ 150) (ho : CtC B n N wn wl (dd + 1) 75 o one) (hg : GRs B n N wn one) : CtC B n N wn wl (dd + 2) 74 o (fun p cs => bnd (one p cs) (fun p1 c1 A W => lpR B n 11 3 one 150 p1 c1 A W)) := fun nn L P E c s p cs I hS hL hb hl => by
  obtain ⟨v2, J2, r2, s2, f2⟩ := ho nn L P E c s p cs I hS hL hb hl
  have gg := hg p cs hS.2.1.1 hb
  show ∃ (v : Int32) (J : FI), _ ∧ PoC B n (bnd (one p cs) (fun p1 c1 A W => lpR B n 11 3 one 150 p1 c1 A W)) v J ∧ FxP I J
  rw [k_X6_readAny_0, r2, Vk_v, k_X6_readAny_5]
  cases hr : one p cs with
  | inl x =>
    obtain ⟨k, z⟩ := x
    rw [hr] at s2
    refine ⟨-1, J2, ?_, ⟨rfl, s2.2⟩, f2⟩
    rw [s2.1, k_X6_readAny_8, show decide ((150 : Int32) ≤ 0) = false by decide +kernel, cond_false, m1_lt, cond_true]
  | inr x =>
    obtain ⟨p1, c1, A1, W1⟩ := x
    rw [hr] at s2 gg
    obtain ⟨s3, s4⟩ := s2
    obtain ⟨e1, e2, e3, e4, e5, e6, e7, e8⟩ := id gg
    obtain ⟨v6, J6, r6, s6, f6⟩ := lp_74 (nn := nn) (L := L) (P := P) (E := E) (c := c) (s := s) h150 ho hg 150 0 p1 c1 A1 W1 J2 rfl gg s4 (hL.fx f2) (by omega)
    exact ⟨v6, J6, by rw [s3]; exact r6, s6, f2.tr f6⟩

theorem ph_75 {dd o : Nat} {one : Nat → List (Nat × Nat) → Rs} (h150 : n ≤ 150) (ho : CtC B n N wn wl (dd + 1) 76 o one) (hg : GRs B n N wn one) : CtC B n N wn wl (dd + 2) 75 o (allR B n one) := ho.m75 h150 hg
theorem ph_74 {dd o : Nat} {one : Nat → List (Nat × Nat) → Rs} (h150 : n ≤ 150) (ho : CtC B n N wn wl (dd + 1) 76 o one) (hg : GRs B n N wn one) : CtC B n N wn wl (dd + 3) 74 o (anyR B n one) := (ph_75 h150 ho hg).m74 h150 hg.all
end PhrC
