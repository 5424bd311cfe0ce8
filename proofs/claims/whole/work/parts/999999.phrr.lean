/-! THE TONGUE: the reference reads a phrase (in part written by program). -/
def rskR (I : FI) : List (Nat × Nat) → Prop
  | [] => True
  | x :: t => I 245 0 (2 * t.length) = nI x.1 ∧ I 245 0 (2 * t.length + 1) = nI x.2 ∧ rskR I t
theorem rskR.keep {I J : FI} : ∀ cs, (∀ j, j < 2 * cs.length → J 245 0 j = I 245 0 j) → rskR I cs → rskR J cs
  | [], _, _ => trivial
  | x :: t, h, g => ⟨(h (2 * t.length) (by rw [List.length_cons]; omega)).trans g.1, (h (2 * t.length + 1) (by rw [List.length_cons]; omega)).trans g.2.1, rskR.keep t (fun j hj => h j (by rw [List.length_cons]; omega)) g.2.2⟩
def FxR (I J : FI) : Prop := ∀ a r j, (a = 186 → j ≠ 4 ∧ j ≠ 5 ∧ j ≠ 6 ∧ j ≠ 8) → a ≠ 245 → a ≠ 246 → J a r j = I a r j
theorem FxR.rfl' {I : FI} : FxR I I := fun _ _ _ _ _ _ => rfl
theorem FxR.tr {I J M : FI} (h : FxR I J) (h2 : FxR J M) : FxR I M := fun a r j q1 q2 q3 => (h2 a r j q1 q2 q3).trans (h a r j q1 q2 q3)
theorem FxR.u {I J : FI} (h : FxR I J) {k : Nat} {x : Int32} (hk : k = 4 ∨ k = 5 ∨ k = 6 ∨ k = 8) : FxR I (up3 J 186 0 k x) := fun a r j q1 q2 q3 => (up3_o (fun g => by have := q1 g.1; omega)).trans (h a r j q1 q2 q3)
theorem FxR.v {I J : FI} (h : FxR I J) {a k : Nat} {x : Int32} (ha : a = 245 ∨ a = 246) : FxR I (up3 J a 0 k x) := fun b r j q1 q2 q3 => (up3_o (fun g => by omega)).trans (h b r j q1 q2 q3)
theorem FxR.fl {I J : FI} (h : FxR I J) {k p : Nat} : FxR I (flR J k p) := (h.u (by decide)).u (by decide)
theorem nI_or {a b : Nat} (ha : a < 2 ^ 31) (hb : b < 2 ^ 31) : nI a ||| nI b = nI (a ||| b) := by
  have h := Nat.or_lt_two_pow (n := 31) ha hb
  apply Int32.toBitVec_inj.mp
  apply BitVec.eq_of_toNat_eq
  rw [Int32.toBitVec_or, BitVec.toNat_or, pk_tn (by omega), pk_tn (by omega), pk_tn (by omega)]
section PhrR
variable {B : Nat → Nat} {n N wn : Nat} {wl : Nat → Nat} {d nn : Nat} {I J : FI} {L : FL} {P : FR} {E : FE} {c s p a o : Nat} {cs : List (Nat × Nat)} {A W : Nat}
def StPh (B : Nat → Nat) (n : Nat) (I : FI) (p : Nat) (cs : List (Nat × Nat)) (A W : Nat) : Prop := (∃ a, AtR B n I a ∧ sk B n a = p) ∧ I 246 0 0 = nI cs.length ∧ rskR I cs ∧ I 246 0 1 = nI A ∧ I 246 0 2 = nI W ∧ A < 16 ∧ W < 64 ∧ I 186 0 6 = -1
def LdR (N wn : Nat) (wl : Nat → Nat) (I : FI) : Prop := I 190 0 0 = nI N ∧ N ≤ 4 ∧ I 190 0 2 = nI wn ∧ wn ≤ 6 ∧ ∀ w, w < wn → I 198 (w + 1) 1 = nI (wl w) ∧ wl w < 16
theorem LdR.fx (h : LdR N wn wl I) (f : FxR I J) : LdR N wn wl J := ⟨(f 190 0 0 (fun e => absurd e (by decide)) (by decide) (by decide)).trans h.1, h.2.1, (f 190 0 2 (fun e => absurd e (by decide)) (by decide) (by decide)).trans h.2.2.1, h.2.2.2.1, fun w hw => ⟨(f 198 (w + 1) 1 (fun e => absurd e (by decide)) (by decide) (by decide)).trans (h.2.2.2.2 w hw).1, (h.2.2.2.2 w hw).2⟩⟩
def PoR (B : Nat → Nat) (n : Nat) (r : Rs) (A0 W0 o : Nat) (J : FI) : Prop := match r with
  | .inl (k, q) => J 186 0 5 = nI k ∧ J 186 0 6 = nI q ∧ 1 ≤ k ∧ k ≤ 3 ∧ ∃ a, a ≤ n ∧ J 186 0 4 = nI a
  | .inr (p1, c1, A, W) => StPh B n J p1 c1 (A0 ||| A) (W0 ||| W) ∧ J 186 0 8 = nI o
def CtR (B : Nat → Nat) (n N wn : Nat) (wl : Nat → Nat) (dd m o : Nat) (f : Nat → List (Nat × Nat) → Rs) : Prop := ∀ (nn : Nat) (L : FL) (P : FR) (E : FE) (c s p : Nat) (cs : List (Nat × Nat)) (A W : Nat) (I : FI), StPh B n I p cs A W → LdR N wn wl I → blB B n p = false → cs.length ≤ p → I 186 0 8 = nI o → ∃ J : FI, V PR dd m 0 [(0, vR (some (186, 0)))] [] (mm nn I L P E c s) = some (.inl none, mm nn J L P E c s) ∧ PoR B n (f p cs) A W o J ∧ FxR I J
theorem dead_of {k : Nat} (h : I 186 0 5 = nI k) (h1 : 1 ≤ k) (h2 : k ≤ 3) : (!decide (I 186 0 5 = 0)) = true := by
  rw [h, decide_eq_false (nI_ne0 (by omega) (by omega))]
  rfl
theorem dead_f (h : (!decide (I 186 0 5 = 0)) = true) : decide (I 186 0 5 = 0) = false := by
  cases q : decide (I 186 0 5 = 0) with
  | false => rfl
  | true => rw [q] at h; cases h
def telR (I : FI) (k : Nat) (x v : Int32) : FI := up3 (up3 (up3 I 245 0 (2 * k) x) 245 0 (2 * k + 1) v) 246 0 0 (nI (k + 1))
theorem r_tells {k : Nat} (h5 : I 186 0 5 = 0) (hk : k < 160) (h : I 246 0 0 = nI k) (x v : Int32) : V PR d 234 0 [(0, vR (some (186, 0))), (1, vi x), (2, vi v)] [] (mm nn I L P E c s) = some (.inl none, mm nn (telR I k x v) L P E c s) := by
  have e1 : (2 : Int32) * nI k = nI (2 * k) := pk_mul 2 k
  have e2 : ∀ y, (up3 I 245 0 (2 * k) y) 246 0 0 = nI k := fun y => (up3_a (by decide)).trans h
  have e3 : ∀ y z, (up3 (up3 I 245 0 (2 * k) y) 245 0 (2 * k + 1) z) 246 0 0 = nI k := fun y z => (up3_a (by decide)).trans (e2 y)
  rw [k_X12_tells_0, h5, show decide ((0 : Int32) = 0) = true by decide +kernel, cond_true, h, e1, inb_nI (by omega) (by decide), cond_true, nI_clamp (by omega), e2, e1, nI_1, inb_nI (by omega) (by decide), cond_true, nI_clamp (by omega), e3, nI_1]
  rfl
theorem r_tells_dead (h : (!decide (I 186 0 5 = 0)) = true) (x v : Int32) : V PR d 234 0 [(0, vR (some (186, 0))), (1, vi x), (2, vi v)] [] (mm nn I L P E c s) = some (.inl none, mm nn I L P E c s) := by
  rw [k_X12_tells_0, dead_f h, cond_false]
theorem FxR.tel (h : FxR I J) {k : Nat} {x v : Int32} : FxR I (telR J k x v) := ((h.v (.inl rfl)).v (.inl rfl)).v (.inr rfl)
theorem AtR.fx (h : AtR B n I a) (f : ∀ b r j, (b = 186 → j ≠ 8) → b ≠ 245 → b ≠ 246 → J b r j = I b r j) : AtR B n J a := by
  obtain ⟨⟨t1, t2, t3, t4⟩, h2, h3, h4⟩ := h
  exact ⟨⟨t1, (f 186 0 2 (fun _ => by decide) (by decide) (by decide)).trans t2, t3, fun k hk => (f 187 0 k (fun e => absurd e (by decide)) (by decide) (by decide)).trans (t4 k hk)⟩, h2, (f 186 0 4 (fun _ => by decide) (by decide) (by decide)).trans h3, (f 186 0 5 (fun _ => by decide) (by decide) (by decide)).trans h4⟩
theorem StPh.tell (h : StPh B n I p cs A W) (y : Nat × Nat) : StPh B n (telR I cs.length (nI y.1) (nI y.2)) p (y :: cs) A W := by
  obtain ⟨⟨a, h1, h2⟩, h3, h4, h5, h6, h7, h8, h9⟩ := h
  have f : ∀ b r j, b ≠ 245 → b ≠ 246 → (telR I cs.length (nI y.1) (nI y.2)) b r j = I b r j := fun b r j q1 q2 => by
    unfold telR
    rw [up3_a q2, up3_a q1, up3_a q1]
  refine ⟨⟨a, h1.fx (fun b r j _ q1 q2 => f b r j q1 q2), h2⟩, ?_, ⟨?_, ?_, ?_⟩, ?_, ?_, h7, h8, (f 186 0 6 (by decide) (by decide)).trans h9⟩
  · unfold telR
    rw [up3_i, List.length_cons]
  · unfold telR
    rw [up3_a (by decide), up3_k (by omega), up3_i]
  · unfold telR
    rw [up3_a (by decide), up3_i]
  · refine rskR.keep cs (fun j hj => ?_) h4
    unfold telR
    rw [up3_a (by decide), up3_k (by omega), up3_k (by omega)]
  · unfold telR
    rw [up3_k (by decide), up3_a (by decide), up3_a (by decide)]
    exact h5
  · unfold telR
    rw [up3_k (by decide), up3_a (by decide), up3_a (by decide)]
    exact h6
theorem telR_8 {k : Nat} {x v : Int32} : (telR I k x v) 186 0 8 = I 186 0 8 := by
  unfold telR
  rw [up3_a (by decide), up3_a (by decide), up3_a (by decide)]
theorem StPh.o8 (h : StPh B n I p cs A W) (x : Int32) : StPh B n (up3 I 186 0 8 x) p cs A W := by
  obtain ⟨⟨a, h1, h2⟩, h3, h4, h5, h6, h7, h8, h9⟩ := h
  exact ⟨⟨a, h1.fx (fun b r j q _ _ => up3_o (fun g => q g.1 g.2.2)), h2⟩, (up3_a (by decide)).trans h3, rskR.keep cs (fun j _ => up3_a (by decide)) h4, (up3_a (by decide)).trans h5, (up3_a (by decide)).trans h6, h7, h8, (up3_k (by decide)).trans h9⟩
/-- the place moved on -/
theorem StPh.mv (h : StPh B n I p cs A W) {b : Nat} (hb : b ≤ n) : StPh B n (up3 I 186 0 4 (nI b)) (sk B n b) cs A W := by
  obtain ⟨⟨a, h1, h2⟩, h3, h4, h5, h6, h7, h8, h9⟩ := h
  exact ⟨⟨b, h1.mv hb, rfl⟩, (up3_a (by decide)).trans h3, rskR.keep cs (fun j _ => up3_a (by decide)) h4, (up3_a (by decide)).trans h5, (up3_a (by decide)).trans h6, h7, h8, (up3_k (by decide)).trans h9⟩

theorem lq_237 {dd o : Nat} {one : Nat → List (Nat × Nat) → Rs} (h150 : n ≤ 150) (ho : CtR B n N wn wl (dd + 4) 238 o one) (hg : GRs B n N wn one) {q : Nat} {bs : List (Nat × Nat)} {A0 W0 : Nat} : ∀ r p cs A W (I : FI), n ≤ p + r → GR B n N wn q bs (.inr (p, cs, A, W)) → StPh B n I p cs (A0 ||| A) (W0 ||| W) → LdR N wn wl I → cs.length ≤ p → I 186 0 8 = nI o → ∃ J : FI, V PR (dd + 5) 237 4 [(0, vR (some (186, 0)))] [] (mm nn I L P E c s) = some (.inl none, mm nn J L P E c s) ∧ PoR B n (lpR B n 12 2 one r p cs A W) A0 W0 o J ∧ FxR I J := by
  have stop : ∀ p cs A W (I : FI), isW B n p (prgT 12) = false → StPh B n I p cs (A0 ||| A) (W0 ||| W) → I 186 0 8 = nI o → ∃ J : FI, V PR (dd + 5) 237 4 [(0, vR (some (186, 0)))] [] (mm nn I L P E c s) = some (.inl none, mm nn J L P E c s) ∧ PoR B n (.inr (p, cs, A, W)) A0 W0 o J ∧ FxR I J := by
    intro p cs A W I hi hS h8
    obtain ⟨a, h1, h2⟩ := hS.1
    have t := rt_12 (d := dd) (nn := nn) (L := L) (P := P) (E := E) (c := c) (s := s) h1
    rw [h2, hi, if_neg (by decide)] at t
    have S2 := hS.mv (b := p) (by rw [← h2]; exact sk_le h1.2.1)
    rw [show sk B n p = p by rw [← h2, sk_sk]] at S2
    refine ⟨up3 I 186 0 4 (nI p), ?_, ⟨S2, (up3_k (by decide)).trans h8⟩, FxR.rfl'.u (by decide)⟩
    rw [k_X12_eachOf_4, t, Vk_v, k_X12_eachOf_14, b2i_eq0, Bool.not_false, cond_true]
  intro r
  induction r with
  | zero =>
    intro p cs A W I hr hG hS hL hl h8
    refine stop p cs A W I ?_ hS h8
    cases hi : isW B n p (prgT 12) with
    | false => rfl
    | true => have := (isW_wd hi (by decide +kernel)).2.2; omega
  | succ r ih =>
    intro p cs A W I hr hG hS hL hl h8
    unfold lpR
    cases hi : isW B n p (prgT 12) with
    | false => exact stop p cs A W I hi hS h8
    | true =>
      obtain ⟨a, h1, h2⟩ := id hS.1
      obtain ⟨a1, a2, a3, a4, a5, a6, a7, a8⟩ := id hG
      obtain ⟨g1, g2, g3⟩ := isW_wd hi (by decide +kernel)
      have g4 := wd_le (B := B) (n := n) (p := p) a2
      have g6 := sk_ge (B := B) (n := n) (wd B n p)
      have t := rt_12 (d := dd) (nn := nn) (L := L) (P := P) (E := E) (c := c) (s := s) h1
      rw [h2, hi, if_pos rfl] at t
      obtain ⟨J2, r2, s2, f2⟩ := ho nn L P E c s _ cs _ _ _ (hS.mv g4) (hL.fx (FxR.rfl'.u (by decide))) (sk_bl _) (by omega) ((up3_k (by decide)).trans h8)
      have gg := hg (sk B n (wd B n p)) cs (sk_le g4) (sk_bl _)
      have f3 : FxR I J2 := (FxR.rfl'.u (by decide)).tr f2
      rw [k_X12_eachOf_4, t, Vk_v, k_X12_eachOf_14, b2i_eq0, Bool.not_true, cond_false, r2, Vk_n, k_X12_eachOf_21, cond_true]
      cases hr2 : one (sk B n (wd B n p)) cs with
      | inl x =>
        obtain ⟨k, z⟩ := x
        rw [hr2] at s2
        have dd2 := dead_of s2.1 s2.2.2.1 s2.2.2.2.1
        refine ⟨J2, ?_, s2, f3⟩
        rw [r_tells_dead dd2, Vk_n, k_X12_eachOf_27, k_X12_eachOf_4, rt_dead dd2, Vk_v, k_X12_eachOf_14, show decide ((0 : Int32) = 0) = true by decide +kernel, cond_true]
      | inr x =>
        obtain ⟨p1, c1, A1, W1⟩ := x
        rw [hr2] at s2 gg
        obtain ⟨s3, s4⟩ := s2
        obtain ⟨e1, e2, e3, e4, e5, e6, e7, e8⟩ := id gg
        obtain ⟨b, b1, b2⟩ := s3.1
        have G1 : GR B n N wn q bs (.inr (p1, (2, 0) :: c1, A ||| A1, W ||| W1)) := by
          have := GR.or (one := one) 2 12 (by decide +kernel) (by decide) hg 1 p cs A W hG
          unfold lpR at this
          rw [hi, cond_true, hr2] at this
          exact this
        have S5 := s3.tell (2, 0)
        rw [Nat.or_assoc, Nat.or_assoc] at S5
        obtain ⟨J6, r6, s6, f6⟩ := ih p1 ((2, 0) :: c1) (A ||| A1) (W ||| W1) _ (by omega) G1 S5 (hL.fx f3.tel) (by rw [List.length_cons]; omega) (telR_8.trans s4)
        refine ⟨J6, ?_, s6, f3.tel.tr f6⟩
        have T : V PR (dd + 4) 234 0 [(0, vR (some (186, 0))), (1, vi (2 : Int32)), (2, vi (0 : Int32))] [] (mm nn J2 L P E c s) = some (.inl none, mm nn (telR J2 c1.length (nI 2) (nI 0)) L P E c s) := r_tells b1.2.2.2 (by omega) s3.2.1 (nI 2) (nI 0)
        rw [T, Vk_n, k_X12_eachOf_27]
        exact r6
theorem CtR.m237 {dd o : Nat} {one : Nat → List (Nat × Nat) → Rs} (h150 : n ≤ 150) (ho : CtR B n N wn wl (dd + 4) 238 o one) (hg : GRs B n N wn one) : CtR B n N wn wl (dd + 5) 237 o (fun p cs => bnd (one p cs) (fun p1 c1 A W => lpR B n 12 2 one 150 p1 c1 A W)) := fun nn L P E c s p cs A0 W0 I hS hL hb hl h8 => by
  obtain ⟨J2, r2, s2, f2⟩ := ho nn L P E c s p cs A0 W0 I hS hL hb hl h8
  have hp : p ≤ n := by
    obtain ⟨a, h1, h2⟩ := hS.1
    rw [← h2]
    exact sk_le h1.2.1
  have gg := hg p cs hp hb
  show ∃ J : FI, _ ∧ PoR B n (bnd (one p cs) (fun p1 c1 A W => lpR B n 12 2 one 150 p1 c1 A W)) A0 W0 o J ∧ FxR I J
  rw [k_X12_eachOf_0, r2, Vk_n]
  cases hr : one p cs with
  | inl x =>
    obtain ⟨k, z⟩ := x
    rw [hr] at s2
    have dd2 := dead_of s2.1 s2.2.2.1 s2.2.2.2.1
    refine ⟨J2, ?_, s2, f2⟩
    rw [k_X12_eachOf_4, rt_dead dd2, Vk_v, k_X12_eachOf_14, show decide ((0 : Int32) = 0) = true by decide +kernel, cond_true]
  | inr x =>
    obtain ⟨p1, c1, A1, W1⟩ := x
    rw [hr] at s2 gg
    obtain ⟨s3, s4⟩ := s2
    obtain ⟨e1, e2, e3, e4, e5, e6, e7, e8⟩ := id gg
    obtain ⟨J6, r6, s6, f6⟩ := lq_237 (nn := nn) (L := L) (P := P) (E := E) (c := c) (s := s) h150 ho hg 150 p1 c1 A1 W1 J2 (by omega) gg s3 (hL.fx f2) (by omega) s4
    exact ⟨J6, r6, s6, f2.tr f6⟩

theorem lq_236 {dd o : Nat} {one : Nat → List (Nat × Nat) → Rs} (h150 : n ≤ 150) (ho : CtR B n N wn wl (dd + 4) 237 o one) (hg : GRs B n N wn one) {q : Nat} {bs : List (Nat × Nat)} {A0 W0 : Nat} : ∀ r p cs A W (I : FI), n ≤ p + r → GR B n N wn q bs (.inr (p, cs, A, W)) → StPh B n I p cs (A0 ||| A) (W0 ||| W) → LdR N wn wl I → cs.length ≤ p → I 186 0 8 = nI o → ∃ J : FI, V PR (dd + 5) 236 4 [(0, vR (some (186, 0)))] [] (mm nn I L P E c s) = some (.inl none, mm nn J L P E c s) ∧ PoR B n (lpR B n 11 3 one r p cs A W) A0 W0 o J ∧ FxR I J := by
  have stop : ∀ p cs A W (I : FI), isW B n p (prgT 11) = false → StPh B n I p cs (A0 ||| A) (W0 ||| W) → I 186 0 8 = nI o → ∃ J : FI, V PR (dd + 5) 236 4 [(0, vR (some (186, 0)))] [] (mm nn I L P E c s) = some (.inl none, mm nn J L P E c s) ∧ PoR B n (.inr (p, cs, A, W)) A0 W0 o J ∧ FxR I J := by
    intro p cs A W I hi hS h8
    obtain ⟨a, h1, h2⟩ := hS.1
    have t := rt_11 (d := dd) (nn := nn) (L := L) (P := P) (E := E) (c := c) (s := s) h1
    rw [h2, hi, if_neg (by decide)] at t
    have S2 := hS.mv (b := p) (by rw [← h2]; exact sk_le h1.2.1)
    rw [show sk B n p = p by rw [← h2, sk_sk]] at S2
    refine ⟨up3 I 186 0 4 (nI p), ?_, ⟨S2, (up3_k (by decide)).trans h8⟩, FxR.rfl'.u (by decide)⟩
    rw [k_X12_anyOf_4, t, Vk_v, k_X12_anyOf_15, b2i_eq0, Bool.not_false, cond_true]
  intro r
  induction r with
  | zero =>
    intro p cs A W I hr hG hS hL hl h8
    refine stop p cs A W I ?_ hS h8
    cases hi : isW B n p (prgT 11) with
    | false => rfl
    | true => have := (isW_wd hi (by decide +kernel)).2.2; omega
  | succ r ih =>
    intro p cs A W I hr hG hS hL hl h8
    unfold lpR
    cases hi : isW B n p (prgT 11) with
    | false => exact stop p cs A W I hi hS h8
    | true =>
      obtain ⟨a, h1, h2⟩ := id hS.1
      obtain ⟨a1, a2, a3, a4, a5, a6, a7, a8⟩ := id hG
      obtain ⟨g1, g2, g3⟩ := isW_wd hi (by decide +kernel)
      have g4 := wd_le (B := B) (n := n) (p := p) a2
      have g6 := sk_ge (B := B) (n := n) (wd B n p)
      have t := rt_11 (d := dd) (nn := nn) (L := L) (P := P) (E := E) (c := c) (s := s) h1
      rw [h2, hi, if_pos rfl] at t
      obtain ⟨J2, r2, s2, f2⟩ := ho nn L P E c s _ cs _ _ _ (hS.mv g4) (hL.fx (FxR.rfl'.u (by decide))) (sk_bl _) (by omega) ((up3_k (by decide)).trans h8)
      have gg := hg (sk B n (wd B n p)) cs (sk_le g4) (sk_bl _)
      have f3 : FxR I J2 := (FxR.rfl'.u (by decide)).tr f2
      rw [k_X12_anyOf_4, t, Vk_v, k_X12_anyOf_15, b2i_eq0, Bool.not_true, cond_false, r2, Vk_n, k_X12_anyOf_22, cond_true]
      cases hr2 : one (sk B n (wd B n p)) cs with
      | inl x =>
        obtain ⟨k, z⟩ := x
        rw [hr2] at s2
        have dd2 := dead_of s2.1 s2.2.2.1 s2.2.2.2.1
        refine ⟨J2, ?_, s2, f3⟩
        rw [r_tells_dead dd2, Vk_n, k_X12_anyOf_28, k_X12_anyOf_4, rt_dead dd2, Vk_v, k_X12_anyOf_15, show decide ((0 : Int32) = 0) = true by decide +kernel, cond_true]
      | inr x =>
        obtain ⟨p1, c1, A1, W1⟩ := x
        rw [hr2] at s2 gg
        obtain ⟨s3, s4⟩ := s2
        obtain ⟨e1, e2, e3, e4, e5, e6, e7, e8⟩ := id gg
        obtain ⟨b, b1, b2⟩ := s3.1
        have G1 : GR B n N wn q bs (.inr (p1, (3, 0) :: c1, A ||| A1, W ||| W1)) := by
          have := GR.or (one := one) 3 11 (by decide +kernel) (by decide) hg 1 p cs A W hG
          unfold lpR at this
          rw [hi, cond_true, hr2] at this
          exact this
        have S5 := s3.tell (3, 0)
        rw [Nat.or_assoc, Nat.or_assoc] at S5
        obtain ⟨J6, r6, s6, f6⟩ := ih p1 ((3, 0) :: c1) (A ||| A1) (W ||| W1) _ (by omega) G1 S5 (hL.fx f3.tel) (by rw [List.length_cons]; omega) (telR_8.trans s4)
        refine ⟨J6, ?_, s6, f3.tel.tr f6⟩
        have T : V PR (dd + 4) 234 0 [(0, vR (some (186, 0))), (1, vi (3 : Int32)), (2, vi (0 : Int32))] [] (mm nn J2 L P E c s) = some (.inl none, mm nn (telR J2 c1.length (nI 3) (nI 0)) L P E c s) := r_tells b1.2.2.2 (by omega) s3.2.1 (nI 3) (nI 0)
        rw [T, Vk_n, k_X12_anyOf_28]
        exact r6
theorem CtR.m236 {dd o : Nat} {one : Nat → List (Nat × Nat) → Rs} (h150 : n ≤ 150) (ho : CtR B n N wn wl (dd + 4) 237 o one) (hg : GRs B n N wn one) : CtR B n N wn wl (dd + 5) 236 o (fun p cs => bnd (one p cs) (fun p1 c1 A W => lpR B n 11 3 one 150 p1 c1 A W)) := fun nn L P E c s p cs A0 W0 I hS hL hb hl h8 => by
  obtain ⟨J2, r2, s2, f2⟩ := ho nn L P E c s p cs A0 W0 I hS hL hb hl h8
  have hp : p ≤ n := by
    obtain ⟨a, h1, h2⟩ := hS.1
    rw [← h2]
    exact sk_le h1.2.1
  have gg := hg p cs hp hb
  show ∃ J : FI, _ ∧ PoR B n (bnd (one p cs) (fun p1 c1 A W => lpR B n 11 3 one 150 p1 c1 A W)) A0 W0 o J ∧ FxR I J
  rw [k_X12_anyOf_0, r2, Vk_n]
  cases hr : one p cs with
  | inl x =>
    obtain ⟨k, z⟩ := x
    rw [hr] at s2
    have dd2 := dead_of s2.1 s2.2.2.1 s2.2.2.2.1
    refine ⟨J2, ?_, s2, f2⟩
    rw [k_X12_anyOf_4, rt_dead dd2, Vk_v, k_X12_anyOf_15, show decide ((0 : Int32) = 0) = true by decide +kernel, cond_true]
  | inr x =>
    obtain ⟨p1, c1, A1, W1⟩ := x
    rw [hr] at s2 gg
    obtain ⟨s3, s4⟩ := s2
    obtain ⟨e1, e2, e3, e4, e5, e6, e7, e8⟩ := id gg
    obtain ⟨J6, r6, s6, f6⟩ := lq_236 (nn := nn) (L := L) (P := P) (E := E) (c := c) (s := s) h150 ho hg 150 p1 c1 A1 W1 J2 (by omega) gg s3 (hL.fx f2) (by omega) s4
    exact ⟨J6, r6, s6, f2.tr f6⟩

theorem pr_237 {dd o : Nat} {one : Nat → List (Nat × Nat) → Rs} (h150 : n ≤ 150) (ho : CtR B n N wn wl (dd + 4) 238 o one) (hg : GRs B n N wn one) : CtR B n N wn wl (dd + 5) 237 o (allR B n one) := ho.m237 h150 hg
theorem pr_236 {dd o : Nat} {one : Nat → List (Nat × Nat) → Rs} (h150 : n ≤ 150) (ho : CtR B n N wn wl (dd + 4) 238 o one) (hg : GRs B n N wn one) : CtR B n N wn wl (dd + 6) 236 o (anyR B n one) := CtR.m236 (dd := dd + 1) h150 (pr_237 h150 ho hg) hg.all
end PhrR
