/-! THE TONGUE: a whole phrase, by the class and by the reference. -/
section PhrV
variable {B : Nat → Nat} {n N wn : Nat} {wl : Nat → Nat} {d nn : Nat} {I J : FI} {L : FL} {P : FR} {E : FE} {c s p a o q : Nat} {cs : List (Nat × Nat)} {A W : Nat}
theorem kd_0 {p : Nat} : decide (kdT B n p = 0) = decide (n ≤ p) := by
  unfold kdT
  by_cases h : n ≤ p
  · rw [if_pos h, decide_eq_true h]; rfl
  · rw [if_neg h, decide_eq_false h]
    split
    · rfl
    · split <;> rfl
theorem any_gr (hN : N ≤ 4) (hw : wn ≤ 6) : GRs B n N wn (anyR B n (oneR B n N wn wl 6)) := (one_gr hN hw 6).any
/-- the class reads a phrase, in vain -/
theorem phr_cf {k z : Nat} (h150 : n ≤ 150) (hN : N ≤ 4) (hw : wn ≤ 6) (hT : TxC B n I) (hk : TkC B n I p) (h7 : I 102 0 7 = -1) (hL : LdC N wn wl I) (hb : blB B n p = false) (hr : phrR B n N wn wl p = .inl (k, z)) : ∃ J : FI, V PR (d + 29) 72 0 [(0, vR (some (143, 0)))] [] (mm nn I L P E c s) = some (.inl (some (vR none)), mm nn J L P E c s) ∧ J 102 0 6 = nI k ∧ J 102 0 7 = nI z ∧ FxP I J := by
  have hS : StC B n (up3 I 143 0 3 0) p [] := ⟨⟨hT.1, (up3_a (by decide)).trans hT.2.1, hT.2.2.1, fun k hk => (up3_a (by decide)).trans (hT.2.2.2 k hk)⟩, hk.fx (fun j => up3_a (by decide)), up3_i _ _ _ _ _, trivial, (up3_a (by decide)).trans h7⟩
  have f0 : FxP I (up3 I 143 0 3 0) := fun a r j _ q2 _ => up3_o (fun g => q2 g.1 g.2.2)
  have one : CtC B n N wn wl (d + 25 + 1) 76 0 (oneR B n N wn wl 6) := one_c h150 hN hw 6 0 rfl d
  obtain ⟨v, J2, r2, s2, f2⟩ := ph_74 h150 one (one_gr hN hw 6) nn L P E c s p [] _ hS (hL.fx f0) hb (Nat.zero_le _)
  have r2' : V PR (d + 28) 74 0 [(0, vR (some (143, 0))), (1, vi (0 : Int32))] [] (mm nn (up3 I 143 0 3 0) L P E c s) = some (.inl (some (vi v)), mm nn J2 L P E c s) := r2
  have gg := any_gr (B := B) (n := n) (N := N) (wn := wn) (wl := wl) hN hw p [] hk.1 hb
  unfold phrR at hr
  rw [k_X6_read_0, r2', Vk_v, k_X6_read_10]
  cases ha : anyR B n (oneR B n N wn wl 6) p [] with
  | inl x =>
    obtain ⟨k1, z1⟩ := x
    rw [ha] at hr s2
    have hr2 : ((k1, z1) : Nat × Nat) = (k, z) := Sum.inl.inj hr
    obtain ⟨rfl, rfl⟩ := Prod.mk.inj hr2
    refine ⟨J2, ?_, s2.2.1, s2.2.2, f0.tr f2⟩
    rw [s2.1, m1_lt, cond_true, m1_ge, cond_false]
  | inr x =>
    obtain ⟨p1, c1, A1, W1⟩ := x
    rw [ha] at hr s2 gg
    obtain ⟨s3, s4⟩ := s2
    obtain ⟨e1, e2, e3, e4, e5, e6, e7, e8⟩ := id gg
    have hr2 : (if p1 < n then (.inl (1, p1) : Rs) else .inr (p1, c1, A1, W1)) = .inl (k, z) := hr
    by_cases hp1 : p1 < n
    · rw [if_pos hp1] at hr2
      obtain ⟨rfl, rfl⟩ := Prod.mk.inj (Sum.inl.inj hr2)
      have F : V PR (d + 28) 121 0 [(0, vR (some (102, 0))), (1, vi (1 : Int32))] [] (mm nn J2 L P E c s) = some (.inl (some (vi (-1 : Int32))), mm nn (flC J2 1 p1) L P E c s) := c_fail 1 s4.2.1
      refine ⟨flC J2 1 p1, ?_, flC_6.1, flC_6.2, (f0.tr f2).fl⟩
      rw [s3, lt0 (by omega), cond_false, show decide (J2 102 0 2 = (0 : Int32)) = decide (n ≤ p1) from (kd_w s4.2.1 0 (by decide)).trans kd_0, decide_eq_false (by omega), cond_false, F, Vk_v, k_X6_read_33, m1_ge, cond_false]
    · rw [if_neg hp1] at hr2
      cases hr2
/-- and not in vain -/
theorem phr_ct {p1 : Nat} {c1 : List (Nat × Nat)} (hc : 487 ≤ c) (h150 : n ≤ 150) (hN : N ≤ 4) (hw : wn ≤ 6) (hT : TxC B n I) (hk : TkC B n I p) (h7 : I 102 0 7 = -1) (hL : LdC N wn wl I) (hb : blB B n p = false) (hr : phrR B n N wn wl p = .inr (p1, c1, A, W)) : ∃ (J I' : FI) (L' : FL) (P' : FR) (E' : FE), V PR (d + 29) 72 0 [(0, vR (some (143, 0)))] [] (mm nn I L P E c s) = some (.inl (some (vR (some (c, 0)))), mm nn I' L' P' E' (c + 2) (s + 2 + c1.length)) ∧ stkC J c1 ∧ J 102 0 7 = -1 ∧ FxP I J ∧ I' c 0 1 = nI (A + 16 * W) ∧ (∀ j, j < 150 → I' (c + 1) 0 j = J 144 0 j) ∧ P' c 0 0 = some (c + 1, 0) ∧ E' c = (1, 5, 0, 0) ∧ E' (c + 1) = (2, 0, c1.length, 0) ∧ (∀ a r j, a ≠ c → a ≠ c + 1 → I' a r j = J a r j ∧ L' a r j = L a r j ∧ P' a r j = P a r j) ∧ (∀ a, a ≠ c → a ≠ c + 1 → E' a = E a) := by
  have hS : StC B n (up3 I 143 0 3 0) p [] := ⟨⟨hT.1, (up3_a (by decide)).trans hT.2.1, hT.2.2.1, fun k hk => (up3_a (by decide)).trans (hT.2.2.2 k hk)⟩, hk.fx (fun j => up3_a (by decide)), up3_i _ _ _ _ _, trivial, (up3_a (by decide)).trans h7⟩
  have f0 : FxP I (up3 I 143 0 3 0) := fun a r j _ q2 _ => up3_o (fun g => q2 g.1 g.2.2)
  have one : CtC B n N wn wl (d + 25 + 1) 76 0 (oneR B n N wn wl 6) := one_c h150 hN hw 6 0 rfl d
  obtain ⟨v, J2, r2, s2, f2⟩ := ph_74 h150 one (one_gr hN hw 6) nn L P E c s p [] _ hS (hL.fx f0) hb (Nat.zero_le _)
  have r2' : V PR (d + 28) 74 0 [(0, vR (some (143, 0))), (1, vi (0 : Int32))] [] (mm nn (up3 I 143 0 3 0) L P E c s) = some (.inl (some (vi v)), mm nn J2 L P E c s) := r2
  have gg := any_gr (B := B) (n := n) (N := N) (wn := wn) (wl := wl) hN hw p [] hk.1 hb
  unfold phrR at hr
  rw [k_X6_read_0, r2', Vk_v, k_X6_read_10]
  cases ha : anyR B n (oneR B n N wn wl 6) p [] with
  | inl x =>
    rw [ha] at hr
    cases hr
  | inr x =>
    obtain ⟨p2, c2, A2, W2⟩ := x
    rw [ha] at hr s2 gg
    obtain ⟨s3, s4⟩ := s2
    obtain ⟨e1, e2, e3, e4, e5, e6, e7, e8⟩ := id gg
    have hr2 : (if p2 < n then (.inl (1, p2) : Rs) else .inr (p2, c2, A2, W2)) = .inr (p1, c1, A, W) := hr
    by_cases hp1 : p2 < n
    · rw [if_pos hp1] at hr2
      cases hr2
    · rw [if_neg hp1] at hr2
      obtain ⟨rfl, g2⟩ := Prod.mk.inj (Sum.inr.inj hr2)
      obtain ⟨rfl, g3⟩ := Prod.mk.inj g2
      obtain ⟨rfl, rfl⟩ := Prod.mk.inj g3
      have hl : c2.length ≤ 150 := by
        rw [List.length_nil] at e4
        omega
      obtain ⟨I', L', P', E', r5, t1, t2, t3, t4, t5, t6, t7⟩ := c_newp (d := d + 28) (n := nn) (I := J2) (L := L) (P := P) (E := E) (c := c) (s := s) (y := nI (A2 + 16 * W2)) hc hl s4.2.2.1
      refine ⟨J2, I', L', P', E', ?_, s4.2.2.2.1, s4.2.2.2.2, f0.tr f2, t1, t2, t3, t4, t5, t6, t7⟩
      rw [s3, lt0 (by omega), cond_false, show decide (J2 102 0 2 = (0 : Int32)) = decide (n ≤ p2) from (kd_w s4.2.1 0 (by decide)).trans kd_0, decide_eq_true (by omega), cond_true, ge0 (by omega), cond_true]
      exact r5
/-- the reference begins a text -/
theorem r_starts (h6 : n ≤ 600) (hbt : ∀ k, k < n → B k < 256) (hI : ∀ k, k < n → I 187 0 k = nI (B k)) : ∃ J : FI, V PR (d + 2) 225 0 [(0, vR (some (186, 0))), (1, vi (nI n))] [] (mm nn I L P E c s) = some (.inl none, mm nn J L P E c s) ∧ AtR B n J (sk B n 0) ∧ J 186 0 1 = 0 ∧ J 186 0 6 = -1 ∧ J 186 0 7 = 0 ∧ J 186 0 8 = 0 ∧ ∀ a r j, (a = 186 → j ≠ 1 ∧ j ≠ 2 ∧ j ≠ 4 ∧ j ≠ 5 ∧ j ≠ 6 ∧ j ≠ 7 ∧ j ≠ 8) → J a r j = I a r j := by
  obtain ⟨I1, hI1⟩ : ∃ I1, I1 = up3 (up3 (up3 (up3 (up3 (up3 (up3 I 186 0 1 0) 186 0 2 (nI n)) 186 0 4 0) 186 0 5 0) 186 0 6 (-1)) 186 0 7 0) 186 0 8 0 := ⟨_, rfl⟩
  have f1 : ∀ a r j, (a = 186 → j ≠ 1 ∧ j ≠ 2 ∧ j ≠ 4 ∧ j ≠ 5 ∧ j ≠ 6 ∧ j ≠ 7 ∧ j ≠ 8) → I1 a r j = I a r j := fun a r j q => by
    rw [hI1, up3_o (fun g => by have := q g.1; omega), up3_o (fun g => by have := q g.1; omega), up3_o (fun g => by have := q g.1; omega), up3_o (fun g => by have := q g.1; omega), up3_o (fun g => by have := q g.1; omega), up3_o (fun g => by have := q g.1; omega), up3_o (fun g => by have := q g.1; omega)]
  have hT : TxR B n I1 := ⟨h6, by rw [hI1]; rfl, hbt, fun k hk => (f1 187 0 k (fun e => absurd e (by decide))).trans (hI k hk)⟩
  have h4 : I1 186 0 4 = nI 0 := by rw [hI1]; rfl
  refine ⟨up3 I1 186 0 4 (nI (sk B n 0)), ?_, ⟨hT.at (by decide), sk_le (Nat.zero_le _), up3_i _ _ _ _ _, ?_⟩, ?_, ?_, ?_, ?_, fun a r j q => (up3_o (fun g => by have := q g.1; omega)).trans (f1 a r j q)⟩
  · rw [k_X12_starts_0, ← hI1, r_blanks hT (Nat.zero_le _) h4, Vk_n, k_X12_starts_39]
  · rw [up3_k (by decide), hI1]; rfl
  · rw [up3_k (by decide), hI1]; rfl
  · rw [up3_k (by decide), hI1]; rfl
  · rw [up3_k (by decide), hI1]; rfl
  · rw [up3_k (by decide), hI1]; rfl
/-- what the reference's reading of a phrase may change -/
def FxS (I J : FI) : Prop := ∀ a r j, (a = 186 → j = 0 ∨ 8 < j) → a ≠ 245 → a ≠ 246 → J a r j = I a r j
theorem FxR.toS {I J : FI} (h : FxR I J) : FxS I J := fun a r j q1 q2 q3 => h a r j (fun e => by have := q1 e; omega) q2 q3
theorem FxS.tr {I J M : FI} (h : FxS I J) (h2 : FxS J M) : FxS I M := fun a r j q1 q2 q3 => (h2 a r j q1 q2 q3).trans (h a r j q1 q2 q3)
theorem reads_7 {x1 : Int32} : V PR (d + 1) 241 7 [(0, vR (some (186, 0))), (1, vi x1), (3, vi (0 : Int32))] [] (mm nn I L P E c s) = Vk d 241 26 [] [(0, vR (some (186, 0))), (1, vi x1)] (V PR d 236 0 [(0, vR (some (186, 0)))] [] (mm nn (up3 (up3 (up3 I 246 0 0 0) 246 0 1 0) 246 0 2 0) L P E c s)) := by
  rw [k_X12_reads_7, show decide ((3 : Int32) ≤ 0) = false by decide +kernel, cond_false, show inb (0 : Int32) 3 = true by decide +kernel, cond_true, show (0 : Int32).toNatClampNeg = 0 by decide +kernel, show (0 : Int32) + 1 = 1 by decide +kernel]
  rw [k_X12_reads_7, show decide ((3 : Int32) ≤ 1) = false by decide +kernel, cond_false, show inb (1 : Int32) 3 = true by decide +kernel, cond_true, show (1 : Int32).toNatClampNeg = 1 by decide +kernel, show (1 : Int32) + 1 = 2 by decide +kernel]
  rw [k_X12_reads_7, show decide ((3 : Int32) ≤ 2) = false by decide +kernel, cond_false, show inb (2 : Int32) 3 = true by decide +kernel, cond_true, show (2 : Int32).toNatClampNeg = 2 by decide +kernel, show (2 : Int32) + 1 = 3 by decide +kernel]
  rw [k_X12_reads_7, show decide ((3 : Int32) ≤ 3) = true by decide +kernel, cond_true]
/-- the parsing of the reference, to its end -/
theorem phr_r0 (x1 : Int32) (h150 : n ≤ 150) (hN : N ≤ 4) (hw : wn ≤ 6) (hbt : ∀ k, k < n → B k < 256) (hI : ∀ k, k < n → I 187 0 k = nI (B k)) (hL : LdR N wn wl I) : ∃ J : FI, V PR (d + 26) 241 0 [(0, vR (some (186, 0))), (1, vi x1), (2, vi (nI n))] [] (mm nn I L P E c s) = V PR (d + 26) 241 29 [(0, vR (some (186, 0))), (1, vi x1)] [] (mm nn J L P E c s) ∧ PoR B n (anyR B n (oneR B n N wn wl 6) (sk B n 0) []) 0 0 0 J ∧ TxR B n J ∧ J 186 0 1 = 0 ∧ FxS I J := by
  obtain ⟨J1, r1, a1, z1, z6, z7, z8, f1⟩ := r_starts (d := d + 23) (nn := nn) (L := L) (P := P) (E := E) (c := c) (s := s) (show n ≤ 600 by omega) hbt hI
  have fS1 : FxS I J1 := fun a r j q1 _ _ => f1 a r j (fun e => by have := q1 e; omega)
  obtain ⟨J2, hJ2⟩ : ∃ J2, J2 = up3 (up3 (up3 J1 246 0 0 0) 246 0 1 0) 246 0 2 0 := ⟨_, rfl⟩
  have f2 : FxR J1 J2 := by rw [hJ2]; exact ((FxR.rfl'.v (.inr rfl)).v (.inr rfl)).v (.inr rfl)
  have A2 : AtR B n J2 (sk B n 0) := a1.fx (fun b r j _ q1 q2 => by rw [hJ2, up3_a q2, up3_a q2, up3_a q2])
  have S2 : StPh B n J2 (sk B n 0) [] 0 0 := ⟨⟨_, A2, sk_sk 0⟩, by rw [hJ2]; rfl, trivial, by rw [hJ2]; rfl, by rw [hJ2]; rfl, by decide, by decide, by rw [hJ2, up3_a (by decide), up3_a (by decide), up3_a (by decide)]; exact z6⟩
  have h8 : J2 186 0 8 = nI 0 := by rw [hJ2, up3_a (by decide), up3_a (by decide), up3_a (by decide)]; exact z8
  have L2 : LdR N wn wl J2 := by
    obtain ⟨l1, l2, l3, l4, l5⟩ := hL
    have g : ∀ a r j, a ≠ 186 → a ≠ 245 → a ≠ 246 → J2 a r j = I a r j := fun a r j q1 q2 q3 => (f2 a r j (fun e => absurd e q1) q2 q3).trans (f1 a r j (fun e => absurd e q1))
    exact ⟨(g 190 0 0 (by decide) (by decide) (by decide)).trans l1, l2, (g 190 0 2 (by decide) (by decide) (by decide)).trans l3, l4, fun w hw => ⟨(g 198 (w + 1) 1 (by decide) (by decide) (by decide)).trans (l5 w hw).1, (l5 w hw).2⟩⟩
  have one : CtR B n N wn wl (d + 19 + 4) 238 0 (oneR B n N wn wl 6) := one_r h150 hN hw 6 0 rfl d
  obtain ⟨J3, r3, s3, f3⟩ := pr_236 h150 one (one_gr hN hw 6) nn L P E c s (sk B n 0) [] 0 0 J2 S2 L2 (sk_bl _) (Nat.zero_le _) h8
  refine ⟨J3, ?_, s3, ?_, ?_, (fS1.tr f2.toS).tr f3.toS⟩
  · rw [k_X12_reads_0, r1, Vk_n, k_X12_reads_5, reads_7, ← hJ2]
    exact (congrArg (Vk (d + 25) 241 26 [] [(0, vR (some (186, 0))), (1, vi x1)]) r3).trans rfl
  · obtain ⟨t1, t2, t3, t4⟩ := A2.1
    exact ⟨t1, (f3 186 0 2 (fun _ => by decide) (by decide) (by decide)).trans t2, t3, fun k hk => (f3 187 0 k (fun e => absurd e (by decide)) (by decide) (by decide)).trans (t4 k hk)⟩
  · rw [f3 186 0 1 (fun _ => by decide) (by decide) (by decide), hJ2, up3_a (by decide), up3_a (by decide), up3_a (by decide)]
    exact z1
/-- the reference reads a phrase, in vain -/
theorem phr_rf {k z : Nat} (x1 : Int32) (h150 : n ≤ 150) (hN : N ≤ 4) (hw : wn ≤ 6) (hbt : ∀ k, k < n → B k < 256) (hI : ∀ k, k < n → I 187 0 k = nI (B k)) (hL : LdR N wn wl I) (hr : phrR B n N wn wl (sk B n 0) = .inl (k, z)) : ∃ J : FI, V PR (d + 26) 241 0 [(0, vR (some (186, 0))), (1, vi x1), (2, vi (nI n))] [] (mm nn I L P E c s) = some (.inl (some (vi (nI k - 10))), mm nn J L P E c s) ∧ J 186 0 3 = nI z ∧ J 186 0 1 = 0 ∧ FxS I J := by
  obtain ⟨J, r1, s1, tx, j1, f1⟩ := phr_r0 (d := d) (nn := nn) (L := L) (P := P) (E := E) (c := c) (s := s) x1 h150 hN hw hbt hI hL
  have gg := any_gr (B := B) (n := n) (N := N) (wn := wn) (wl := wl) hN hw (sk B n 0) [] (sk_le (Nat.zero_le _)) (sk_bl _)
  unfold phrR at hr
  rw [r1]
  cases ha : anyR B n (oneR B n N wn wl 6) (sk B n 0) [] with
  | inl x =>
    obtain ⟨k1, z1⟩ := x
    rw [ha] at hr s1
    obtain ⟨rfl, rfl⟩ := Prod.mk.inj (Sum.inl.inj hr)
    obtain ⟨q5, q6, q1, q3, a, ha1, ha2⟩ := s1
    obtain ⟨J2, hJ2⟩ : ∃ J2, J2 = up3 J 186 0 4 (nI (sk B n a)) := ⟨_, rfl⟩
    have g5 : J2 186 0 5 = nI k1 := by rw [hJ2, up3_k (by decide)]; exact q5
    have g6 : J2 186 0 6 = nI z1 := by rw [hJ2, up3_k (by decide)]; exact q6
    have dd := dead_of g5 q1 q3
    refine ⟨up3 J2 186 0 3 (J2 186 0 6), ?_, by rw [up3_i, g6], ?_, ?_⟩
    · have e5 : (up3 J2 186 0 3 (J2 186 0 6)) 186 0 5 = nI k1 := (up3_k (by decide)).trans g5
      rw [k_X12_reads_29, r_blanks tx ha1 ha2, ← hJ2, Vk_n, k_X12_reads_33, dd, cond_true, e5, decide_eq_false (nI_ne0 (by omega) (by omega)), cond_false]
    · rw [up3_k (by decide), hJ2, up3_k (by decide)]; exact j1
    · exact f1.tr (fun b r j w1 w2 w3 => by rw [hJ2, up3_o (fun g => by have := w1 g.1; omega), up3_o (fun g => by have := w1 g.1; omega)])
  | inr x =>
    obtain ⟨p1, c1, A1, W1⟩ := x
    rw [ha] at hr s1 gg
    obtain ⟨s2, s3⟩ := s1
    obtain ⟨e1, e2, e3, e4, e5, e6, e7, e8⟩ := id gg
    have hr2 : (if p1 < n then (.inl (1, p1) : Rs) else .inr (p1, c1, A1, W1)) = .inl (k, z) := hr
    by_cases hp1 : p1 < n
    · rw [if_pos hp1] at hr2
      obtain ⟨rfl, rfl⟩ := Prod.mk.inj (Sum.inl.inj hr2)
      obtain ⟨a, a1, a2⟩ := s2.1
      obtain ⟨J2, hJ2⟩ : ∃ J2, J2 = up3 J 186 0 4 (nI p1) := ⟨_, rfl⟩
      have A2 : AtR B n J2 p1 := by rw [hJ2]; exact a1.mv e2
      have w : V PR (d + 25) 214 0 [(0, vR (some (186, 0))), (1, vi (1 : Int32)), (2, vi (nI p1))] [] (mm nn J2 L P E c s) = some (.inl none, mm nn (flR J2 1 p1) L P E c s) := r_wrong A2.2.2.2
      obtain ⟨J3, hJ3⟩ : ∃ J3, J3 = flR J2 1 p1 := ⟨_, rfl⟩
      have g5 : J3 186 0 5 = nI 1 := by rw [hJ3]; unfold flR; rw [up3_k (by decide), up3_i]
      have g6 : J3 186 0 6 = nI p1 := by rw [hJ3]; unfold flR; rw [up3_i]
      refine ⟨up3 J3 186 0 3 (J3 186 0 6), ?_, by rw [up3_i, g6], ?_, ?_⟩
      · have e5 : (up3 J3 186 0 3 (J3 186 0 6)) 186 0 5 = nI 1 := (up3_k (by decide)).trans g5
        have l6 := tx.1
        rw [k_X12_reads_29, r_blanks a1.1 a1.2.1 a1.2.2.1, a2, ← hJ2, Vk_n, k_X12_reads_33, A2.2.2.2, n0t, cond_false, A2.1.2.1, A2.2.2.1, nI_led (by omega) (by omega), decide_eq_false (by omega), cond_false, w, Vk_n, ← hJ3, k_X12_reads_60, e5, show decide (nI 1 = (0 : Int32)) = false by decide +kernel, cond_false]
      · rw [up3_k (by decide), hJ3]
        unfold flR
        rw [up3_k (by decide), up3_k (by decide), hJ2, up3_k (by decide)]
        exact j1
      · refine f1.tr (fun b r j w1 w2 w3 => ?_)
        rw [up3_o (fun g => by have := w1 g.1; omega), hJ3]
        unfold flR
        rw [up3_o (fun g => by have := w1 g.1; omega), up3_o (fun g => by have := w1 g.1; omega), hJ2, up3_o (fun g => by have := w1 g.1; omega)]
    · rw [if_neg hp1] at hr2
      cases hr2
/-- the sentence laid down -/
theorem reads_85 (hq : q < 7) : ∀ r j (I : FI), j + r = 3 → ∃ J : FI, V PR d 241 85 [(0, vR (some (186, 0))), (1, vi (nI q)), (3, vi (nI j))] [] (mm nn I L P E c s) = V PR d 241 112 [(0, vR (some (186, 0))), (1, vi (nI q)), (3, vi (nI 0))] [] (mm nn J L P E c s) ∧ (∀ i, j ≤ i → i < 3 → J 229 (q + 1) i = I 246 0 i) ∧ ∀ a t k, (a = 229 → t ≠ q + 1 ∨ k < j) → J a t k = I a t k
  | 0, j, I, h => by
    refine ⟨I, ?_, fun i h1 h2 => by omega, fun _ _ _ _ => rfl⟩
    rw [k_X12_reads_85, show decide ((3 : Int32) ≤ nI j) = true from (nI_led (a := 3) (by decide) (by omega)).trans (decide_eq_true (by omega)), cond_true]
    rfl
  | r + 1, j, I, h => by
    obtain ⟨J, r1, h1, h2⟩ := reads_85 hq r (j + 1) (up3 I 229 (q + 1) j (I 246 0 j)) (by omega)
    refine ⟨J, ?_, fun i g1 g2 => ?_, fun a t k g => ?_⟩
    · rw [k_X12_reads_85, show decide ((3 : Int32) ≤ nI j) = false from (nI_led (a := 3) (by decide) (by omega)).trans (decide_eq_false (by omega)), cond_false, inb_nI hq (by decide), cond_true, inb_nI (show j < 3 by omega) (by decide), cond_true, nI_clamp (show q < 2 ^ 31 by omega), aro_229, blt_t hq, inb_nI (show j < 3 by omega) (by decide), Bool.and_self, cond_true, nI_clamp (show j < 2 ^ 31 by omega), nI_1]
      exact r1
    · by_cases e : i = j
      · subst e
        rw [h2 229 (q + 1) i (fun _ => .inr (by omega)), up3_i]
      · rw [h1 i (by omega) g2, up3_a (by decide)]
    · rw [h2 a t k (fun e => (g e).imp id (by omega)), up3_o (fun w => by rcases g w.1 with q1 | q1 <;> omega)]
theorem reads_112 {k : Nat} (hq : q < 7) (hk : k ≤ 150) : ∀ r j (I : FI), j + r = 2 * k → I 246 0 0 = nI k → ∃ J : FI, V PR d 241 112 [(0, vR (some (186, 0))), (1, vi (nI q)), (3, vi (nI j))] [] (mm nn I L P E c s) = some (.inl (some (vi (1 : Int32))), mm nn J L P E c s) ∧ (∀ i, j ≤ i → i < 2 * k → J 237 (q + 1) i = I 245 0 i) ∧ ∀ a t i, (a = 237 → t ≠ q + 1 ∨ i < j) → J a t i = I a t i
  | 0, j, I, h, h0 => by
    refine ⟨I, ?_, fun i h1 h2 => by omega, fun _ _ _ _ => rfl⟩
    rw [k_X12_reads_112, h0, show (2 : Int32) * nI k = nI (2 * k) from pk_mul 2 k, nI_led (by omega) (by omega), decide_eq_true (by omega), cond_true]
  | r + 1, j, I, h, h0 => by
    obtain ⟨J, r1, h1, h2⟩ := reads_112 hq hk r (j + 1) (up3 I 237 (q + 1) j (I 245 0 j)) (by omega) ((up3_a (by decide)).trans h0)
    refine ⟨J, ?_, fun i g1 g2 => ?_, fun a t i g => ?_⟩
    · rw [k_X12_reads_112, h0, show (2 : Int32) * nI k = nI (2 * k) from pk_mul 2 k, nI_led (by omega) (by omega), decide_eq_false (by omega), cond_false, inb_nI hq (by decide), cond_true, inb_nI (show j < 320 by omega) (by decide), cond_true, nI_clamp (show q < 2 ^ 31 by omega), aro_237, blt_t hq, inb_nI (show j < 320 by omega) (by decide), Bool.and_self, cond_true, nI_clamp (show j < 2 ^ 31 by omega), nI_1]
      exact r1
    · by_cases e : i = j
      · subst e
        rw [h2 237 (q + 1) i (fun _ => .inr (by omega)), up3_i]
      · rw [h1 i (by omega) g2, up3_a (by decide)]
    · rw [h2 a t i (fun e => (g e).imp id (by omega)), up3_o (fun w => by rcases g w.1 with q1 | q1 <;> omega)]
/-- the reference reads a phrase, not in vain -/
theorem phr_rt {p1 : Nat} {c1 : List (Nat × Nat)} (hq : q < 7) (h150 : n ≤ 150) (hN : N ≤ 4) (hw : wn ≤ 6) (hbt : ∀ k, k < n → B k < 256) (hI : ∀ k, k < n → I 187 0 k = nI (B k)) (hL : LdR N wn wl I) (hr : phrR B n N wn wl (sk B n 0) = .inr (p1, c1, A, W)) : ∃ J J2 : FI, V PR (d + 26) 241 0 [(0, vR (some (186, 0))), (1, vi (nI q)), (2, vi (nI n))] [] (mm nn I L P E c s) = some (.inl (some (vi (1 : Int32))), mm nn J L P E c s) ∧ J 186 0 3 = -1 ∧ J 186 0 1 = 0 ∧ J 229 (q + 1) 0 = nI c1.length ∧ J 229 (q + 1) 1 = nI A ∧ J 229 (q + 1) 2 = nI W ∧ rskR J2 c1 ∧ (∀ j, j < 2 * c1.length → J 237 (q + 1) j = J2 245 0 j) ∧ ∀ a r j, (a = 186 → j = 0 ∨ 8 < j) → a ≠ 245 → a ≠ 246 → (a = 229 → r ≠ q + 1) → (a = 237 → r ≠ q + 1) → J a r j = I a r j := by
  obtain ⟨J, r1, s1, tx, j1, f1⟩ := phr_r0 (d := d) (nn := nn) (L := L) (P := P) (E := E) (c := c) (s := s) (nI q) h150 hN hw hbt hI hL
  have gg := any_gr (B := B) (n := n) (N := N) (wn := wn) (wl := wl) hN hw (sk B n 0) [] (sk_le (Nat.zero_le _)) (sk_bl _)
  unfold phrR at hr
  rw [r1]
  cases ha : anyR B n (oneR B n N wn wl 6) (sk B n 0) [] with
  | inl x =>
    rw [ha] at hr
    cases hr
  | inr x =>
    obtain ⟨p2, c2, A2, W2⟩ := x
    rw [ha] at hr s1 gg
    obtain ⟨s2, s3⟩ := s1
    rw [Nat.zero_or, Nat.zero_or] at s2
    obtain ⟨e1, e2, e3, e4, e5, e6, e7, e8⟩ := id gg
    have hr2 : (if p2 < n then (.inl (1, p2) : Rs) else .inr (p2, c2, A2, W2)) = .inr (p1, c1, A, W) := hr
    by_cases hp1 : p2 < n
    · rw [if_pos hp1] at hr2
      cases hr2
    · rw [if_neg hp1] at hr2
      obtain ⟨rfl, g2⟩ := Prod.mk.inj (Sum.inr.inj hr2)
      obtain ⟨rfl, g3⟩ := Prod.mk.inj g2
      obtain ⟨rfl, rfl⟩ := Prod.mk.inj g3
      have hl : c2.length ≤ 150 := by
        rw [List.length_nil] at e4
        omega
      obtain ⟨⟨a, a1, a2⟩, t2, t3, t4, t5, t6, t7, t8⟩ := id s2
      have l6 := tx.1
      obtain ⟨J2, hJ2⟩ : ∃ J2, J2 = up3 (up3 J 186 0 4 (nI p2)) 186 0 3 (-1) := ⟨_, rfl⟩
      have g186 : ∀ b r j, b ≠ 186 → J2 b r j = J b r j := fun b r j hb => by rw [hJ2, up3_a hb, up3_a hb]
      obtain ⟨J3, r3, u1, u2⟩ := reads_85 (d := d + 26) (nn := nn) (L := L) (P := P) (E := E) (c := c) (s := s) hq 3 0 J2 rfl
      obtain ⟨J4, r4, v1, v2⟩ := reads_112 (d := d + 26) (nn := nn) (L := L) (P := P) (E := E) (c := c) (s := s) (k := c2.length) hq hl (2 * c2.length) 0 J3 (by omega) (by rw [u2 246 0 0 (fun e => absurd e (by decide)), g186 246 0 0 (by decide)]; exact t2)
      have k229 : ∀ i, i < 3 → J4 229 (q + 1) i = J 246 0 i := fun i hi => by
        rw [v2 229 (q + 1) i (fun e => absurd e (by decide)), u1 i (Nat.zero_le _) hi, g186 246 0 i (by decide)]
      refine ⟨J4, J, ?_, ?_, ?_, (k229 0 (by decide)).trans t2, (k229 1 (by decide)).trans t4, (k229 2 (by decide)).trans t5, t3, fun j hj => ?_, fun b r j w1 w2 w3 w4 w5 => ?_⟩
      · have e5 : (up3 (up3 J 186 0 4 (nI p2)) 186 0 3 (-1)) 186 0 5 = 0 := by rw [up3_k (by decide), up3_k (by decide)]; exact a1.2.2.2
        have e6 : (up3 J 186 0 4 (nI p2)) 186 0 6 = -1 := (up3_k (by decide)).trans t8
        have A2 : AtR B n (up3 J 186 0 4 (nI p2)) p2 := a1.mv e2
        rw [k_X12_reads_29, r_blanks a1.1 a1.2.1 a1.2.2.1, a2, Vk_n, k_X12_reads_33, A2.2.2.2, n0t, cond_false, A2.1.2.1, A2.2.2.1, nI_led (by omega) (by omega), decide_eq_true (by omega), cond_true, e6, e5, show decide ((0 : Int32) = 0) = true by decide +kernel, cond_true, ← hJ2]
        exact r3.trans r4
      · rw [v2 186 0 3 (fun e => absurd e (by decide)), u2 186 0 3 (fun e => absurd e (by decide)), hJ2, up3_i]
      · rw [v2 186 0 1 (fun e => absurd e (by decide)), u2 186 0 1 (fun e => absurd e (by decide)), hJ2, up3_k (by decide), up3_k (by decide)]
        exact j1
      · rw [v1 j (Nat.zero_le _) hj, u2 245 0 j (fun e => absurd e (by decide)), g186 245 0 j (by decide)]
      · rw [v2 b r j (fun e => .inl (w5 e)), u2 b r j (fun e => .inl (w4 e)), hJ2, up3_o (fun g => by have := w1 g.1; omega), up3_o (fun g => by have := w1 g.1; omega)]
        exact f1 b r j w1 w2 w3
end PhrV
