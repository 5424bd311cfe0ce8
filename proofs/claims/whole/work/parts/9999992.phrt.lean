/-! THE TONGUE: the reference reads one, 2. -/
section PhrT
variable {B : Nat → Nat} {n N wn : Nat} {wl : Nat → Nat} {d nn : Nat} {I J : FI} {L : FL} {P : FR} {E : FE} {c s p a o : Nat} {cs : List (Nat × Nat)} {A W : Nat}
theorem t0 : decide ((0 : Int32) = 0) = true := by decide +kernel
theorem n1t0 : (!decide ((1 : Int32) = 0)) = true := by decide +kernel
theorem one_dead (h : (!decide (I 186 0 5 = 0)) = true) : V PR (d + 1) 238 0 [(0, vR (some (186, 0)))] [] (mm nn I L P E c s) = some (.inl none, mm nn I L P E c s) := by
  rw [k_X12_oneOf_0, dead_f h, cond_false]
theorem StPh.lep (h : StPh B n I p cs A W) : p ≤ n := by
  obtain ⟨a, h1, h2⟩ := h.1
  rw [← h2]
  exact sk_le h1.2.1
theorem StPh.at (h : StPh B n I p cs A W) : AtR B n (up3 I 186 0 4 (nI p)) p := by
  obtain ⟨a, h1, h2⟩ := h.1
  have := h1.sk
  rw [h2] at this
  exact this
theorem one_st (h : StPh B n I p cs A W) : V PR (d + 2) 238 0 [(0, vR (some (186, 0)))] [] (mm nn I L P E c s) = V PR (d + 2) 238 12 [(0, vR (some (186, 0)))] [] (mm nn (up3 I 186 0 4 (nI p)) L P E c s) := by
  obtain ⟨a, h1, h2⟩ := h.1
  rw [k_X12_oneOf_0, h1.2.2.2, t0, cond_true, r_blanks h1.1 h1.2.1 h1.2.2.1, Vk_n, h2]
theorem q_13 (h : AtR B n I p) (hb : blB B n p = false) : V PR (d + 4) 238 12 [(0, vR (some (186, 0)))] [] (mm nn I L P E c s) = bif isW B n p (prgT 13) then Vk (d + 3) 238 28 [] [(0, vR (some (186, 0)))] (V PR (d + 3) 235 0 [(0, vR (some (186, 0)))] [] (mm nn I L P E c s)) else Vk (d + 3) 238 67 [] [(0, vR (some (186, 0)))] (V PR (d + 3) 212 0 [(0, vR (some (186, 0))), (1, vi (I 186 0 4))] [] (mm nn I L P E c s)) := by
  have w := rw_13 (d := d) (nn := nn) (L := L) (P := P) (E := E) (c := c) (s := s) h
  rw [at_same h hb, sk_id hb] at w
  rw [k_X12_oneOf_12, w, Vk_v, k_X12_oneOf_24, b2i_eq0]
  cases isW B n p (prgT 13) <;> rfl
theorem q_91 (h : AtR B n I p) (hb : blB B n p = false) : Vk (d + 3) 238 67 [] [(0, vR (some (186, 0)))] (V PR (d + 3) 212 0 [(0, vR (some (186, 0))), (1, vi (I 186 0 4))] [] (mm nn I L P E c s)) = bif sgB B n p 91 then Vk (d + 3) 238 76 [] [(0, vR (some (186, 0)))] (V PR (d + 3) 235 0 [(0, vR (some (186, 0)))] [] (mm nn I L P E c s)) else bif isW B n p (prgT 14) then Vk (d + 3) 238 131 [] [(0, vR (some (186, 0)))] (V PR (d + 3) 235 0 [(0, vR (some (186, 0)))] [] (mm nn I L P E c s)) else bif isW B n p (prgT 15) then Vk (d + 3) 238 209 [] [(0, vR (some (186, 0)))] (V PR (d + 3) 235 0 [(0, vR (some (186, 0)))] [] (mm nn I L P E c s)) else Vk (d + 3) 238 255 [] [(0, vR (some (186, 0)))] (V PR (d + 3) 212 0 [(0, vR (some (186, 0))), (1, vi (I 186 0 4))] [] (mm nn I L P E c s)) := by
  have w := rw_14 (d := d) (nn := nn) (L := L) (P := P) (E := E) (c := c) (s := s) h
  rw [at_same h hb, sk_id hb] at w
  have w2 := rw_15 (d := d) (nn := nn) (L := L) (P := P) (E := E) (c := c) (s := s) h
  rw [at_same h hb, sk_id hb] at w2
  have e : decide (byV B n p = (91 : Int32)) = sgB B n p 91 := (by_w h.1.2.2.1 p 91 (by decide)).trans (sg_iff (by decide))
  rw [show V PR (d + 3) 212 0 [(0, vR (some (186, 0))), (1, vi (I 186 0 4))] [] (mm nn I L P E c s) = some (.inl (some (vi (byV B n p))), mm nn I L P E c s) by rw [h.2.2.1]; exact r_byte h.1 (by have := h.1.1; have := h.2.1; omega)]
  rw [Vk_v, k_X12_oneOf_70, e]
  cases sgB B n p 91 with
  | true => rfl
  | false =>
    rw [Bool.not_false, cond_true, cond_false, w, Vk_v, k_X12_oneOf_127, b2i_eq0]
    cases isW B n p (prgT 14) with
    | true => rfl
    | false =>
      rw [Bool.not_false, cond_true, cond_false, w2, Vk_v, k_X12_oneOf_205, b2i_eq0]
      cases isW B n p (prgT 15) with
      | true => rfl
      | false =>
        rw [Bool.not_false, cond_true, cond_false, show V PR (d + 3) 212 0 [(0, vR (some (186, 0))), (1, vi (I 186 0 4))] [] (mm nn I L P E c s) = some (.inl (some (vi (byV B n p))), mm nn I L P E c s) by rw [h.2.2.1]; exact r_byte h.1 (by have := h.1.1; have := h.2.1; omega)]
/-- what stands open, one less -/
theorem PoR.close {r : Rs} (h : PoR B n r A W (o + 1) J) : PoR B n r A W o (up3 J 186 0 8 (J 186 0 8 - 1)) := by
  cases r with
  | inl x => exact ⟨(up3_k (by decide)).trans h.1, (up3_k (by decide)).trans h.2.1, h.2.2.1, h.2.2.2.1, h.2.2.2.2.imp fun a g => ⟨g.1, (up3_k (by decide)).trans g.2⟩⟩
  | inr x =>
    obtain ⟨p1, c1, A1, W1⟩ := x
    refine ⟨h.1.o8 _, ?_⟩
    rw [up3_i, h.2, nI_pred]
theorem PoR.fault {k q : Nat} (h : PoR B n (.inl (k, q)) A W o J) : (!decide (J 186 0 5 = 0)) = true := dead_of h.1 h.2.2.1 h.2.2.2.1
/-- not -/
theorem b_not {dd o : Nat} {one : Nat → List (Nat × Nat) → Rs} (h150 : n ≤ 150) (ho : CtR B n N wn wl (dd + 1) 238 (o + 1) one) (hg : GRs B n N wn one) (hS : StPh B n I p cs A W) (hA : AtR B n I p) (hL : LdR N wn wl I) (hw : isW B n p (prgT 13) = true) (hl : cs.length ≤ p) (h8 : I 186 0 8 = nI (o + 1)) : ∃ J : FI, V PR (dd + 2) 238 31 [(0, vR (some (186, 0)))] [vi (1 : Int32)] (mm nn I L P E c s) = some (.inl none, mm nn J L P E c s) ∧ PoR B n (notR B n one p cs) A W o J ∧ FxR I J := by
  obtain ⟨m1, m2, m3⟩ := isW_wd hw (by decide +kernel)
  have t1 := sk_ge (B := B) (n := n) (wd B n p)
  have w1 := wd_le (B := B) (n := n) hS.lep
  obtain ⟨J2, r2, s2, f2⟩ := ho nn L P E c s _ cs A W _ (hS.mv w1) (hL.fx (FxR.rfl'.u (by decide))) (sk_bl _) (by omega) ((up3_k (by decide)).trans h8)
  have gg := hg (sk B n (wd B n p)) cs (sk_le w1) (sk_bl _)
  have f3 : FxR I J2 := (FxR.rfl'.u (by decide)).tr f2
  unfold notR
  rw [k_X12_oneOf_31, n1t0, cond_true, r_skip hA.1 hA.2.1 hA.2.2.1, Vk_n, k_X12_oneOf_39, r2, Vk_n, k_X12_oneOf_43]
  cases hr : one (sk B n (wd B n p)) cs with
  | inl x =>
    obtain ⟨k, z⟩ := x
    rw [hr] at s2
    refine ⟨_, ?_, s2.close, f3.u (by decide)⟩
    rw [r_tells_dead s2.fault, Vk_n, k_X12_oneOf_49]
  | inr x =>
    obtain ⟨p1, c1, A1, W1⟩ := x
    rw [hr] at s2 gg
    obtain ⟨s3, s4⟩ := s2
    obtain ⟨e1, e2, e3, e4, e5, e6, e7, e8⟩ := id gg
    obtain ⟨b, b1, b2⟩ := s3.1
    have T : V PR (dd + 1) 234 0 [(0, vR (some (186, 0))), (1, vi (1 : Int32)), (2, vi (0 : Int32))] [] (mm nn J2 L P E c s) = some (.inl none, mm nn (telR J2 c1.length (nI 1) (nI 0)) L P E c s) := r_tells b1.2.2.2 (by omega) s3.2.1 (nI 1) (nI 0)
    have S5 := s3.tell (1, 0)
    have P5 : PoR B n (.inr (p1, (1, 0) :: c1, A1, W1)) A W (o + 1) (telR J2 c1.length (nI 1) (nI 0)) := ⟨S5, telR_8.trans s4⟩
    refine ⟨_, ?_, P5.close, f3.tel.u (by decide)⟩
    rw [T, Vk_n, k_X12_oneOf_49]
/-- a bracket -/
theorem b_bra {dd o : Nat} {any : Nat → List (Nat × Nat) → Rs} (h150 : n ≤ 150) (ho : CtR B n N wn wl (dd + 2) 236 (o + 1) any) (hg : GRs B n N wn any) (hS : StPh B n I p cs A W) (hA : AtR B n I p) (hL : LdR N wn wl I) (hw : sgB B n p 91 = true) (hl : cs.length ≤ p) (h8 : I 186 0 8 = nI (o + 1)) : ∃ J : FI, V PR (dd + 3) 238 79 [(0, vR (some (186, 0)))] [vi (1 : Int32)] (mm nn I L P E c s) = some (.inl none, mm nn J L P E c s) ∧ PoR B n (braR B n any p cs) A W o J ∧ FxR I J := by
  obtain ⟨l1, -⟩ := sg_lt hw
  have t1 := sk_ge (B := B) (n := n) (p + 1)
  obtain ⟨J2, r2, s2, f2⟩ := ho nn L P E c s _ cs A W _ (hS.mv (b := p + 1) (by omega)) (hL.fx (FxR.rfl'.u (by decide))) (sk_bl _) (by omega) ((up3_k (by decide)).trans h8)
  have gg := hg (sk B n (p + 1)) cs (sk_le (by omega)) (sk_bl _)
  have f3 : FxR I J2 := (FxR.rfl'.u (by decide)).tr f2
  unfold braR
  rw [k_X12_oneOf_79, n1t0, cond_true, hA.2.2.1, nI_1, r2, Vk_n, k_X12_oneOf_97]
  cases hr : any (sk B n (p + 1)) cs with
  | inl x =>
    obtain ⟨k, z⟩ := x
    rw [hr] at s2
    refine ⟨_, ?_, s2.close, f3.u (by decide)⟩
    rw [r_sign_dead s2.fault, Vk_n, k_X12_oneOf_103]
  | inr x =>
    obtain ⟨p1, c1, A1, W1⟩ := x
    rw [hr] at s2 gg
    obtain ⟨s3, s4⟩ := s2
    obtain ⟨e1, e2, e3, e4, e5, e6, e7, e8⟩ := id gg
    obtain ⟨b, b1, b2⟩ := s3.1
    have S : V PR (dd + 2) 224 0 [(0, vR (some (186, 0))), (1, vi (93 : Int32))] [] (mm nn J2 L P E c s) = _ := r_sign (w := 93) (by decide) b1
    rw [S, b2, Vk_n]
    have e93 : (decide (p1 < n) && decide (B p1 = 93)) = sgB B n p1 93 := sg_iff (by decide)
    show ∃ J : FI, _ ∧ PoR B n (bif sgB B n p1 93 then .inr (sk B n (p1 + 1), c1, A1, W1) else .inl (1, p1)) A W o J ∧ FxR I J
    cases h93 : sgB B n p1 93 with
    | true =>
      obtain ⟨l2, l3⟩ := sg_lt h93
      rw [if_pos ⟨l2, l3⟩, cond_true]
      have P5 : PoR B n (.inr (sk B n (p1 + 1), c1, A1, W1)) A W (o + 1) (up3 J2 186 0 4 (nI (p1 + 1))) := ⟨s3.mv (b := p1 + 1) (by omega), (up3_k (by decide)).trans s4⟩
      exact ⟨_, k_X12_oneOf_103 _ _ _ _ _ _ _ _, P5.close, (f3.u (by decide)).u (by decide)⟩
    | false =>
      rw [h93, Bool.and_eq_false_iff, decide_eq_false_iff_not, decide_eq_false_iff_not] at e93
      rw [if_neg (fun g => e93.elim (fun q => q g.1) (fun q => q g.2)), cond_false]
      have P5 : PoR B n (.inl (1, p1)) A W (o + 1) (flR (up3 J2 186 0 4 (nI p1)) 1 p1) := by
        refine ⟨?_, ?_, by decide, by decide, p1, e2, ?_⟩
        · unfold flR
          rw [up3_k (by decide), up3_i]
        · unfold flR
          rw [up3_i]
        · unfold flR
          rw [up3_k (by decide), up3_k (by decide), up3_i]
      exact ⟨_, k_X12_oneOf_103 _ _ _ _ _ _ _ _, P5.close, ((f3.u (by decide)).fl).u (by decide)⟩
/-- if -/
theorem b_if {dd o : Nat} {one : Nat → List (Nat × Nat) → Rs} (h150 : n ≤ 150) (ho : CtR B n N wn wl (dd + 4) 238 (o + 1) one) (hg : GRs B n N wn one) (hS : StPh B n I p cs A W) (hA : AtR B n I p) (hL : LdR N wn wl I) (hw : isW B n p (prgT 14) = true) (hl : cs.length ≤ p) (h8 : I 186 0 8 = nI (o + 1)) : ∃ J : FI, V PR (dd + 5) 238 134 [(0, vR (some (186, 0)))] [vi (1 : Int32)] (mm nn I L P E c s) = some (.inl none, mm nn J L P E c s) ∧ PoR B n (ifR B n one p cs) A W o J ∧ FxR I J := by
  obtain ⟨m1, m2, m3⟩ := isW_wd hw (by decide +kernel)
  have t1 := sk_ge (B := B) (n := n) (wd B n p)
  have w1 := wd_le (B := B) (n := n) hS.lep
  obtain ⟨J2, r2, s2, f2⟩ := ho nn L P E c s _ cs A W _ (hS.mv w1) (hL.fx (FxR.rfl'.u (by decide))) (sk_bl _) (by omega) ((up3_k (by decide)).trans h8)
  have gg := hg (sk B n (wd B n p)) cs (sk_le w1) (sk_bl _)
  have f3 : FxR I J2 := (FxR.rfl'.u (by decide)).tr f2
  unfold ifR
  rw [k_X12_oneOf_134, n1t0, cond_true, r_skip hA.1 hA.2.1 hA.2.2.1, Vk_n, k_X12_oneOf_142, r2, Vk_n, k_X12_oneOf_146]
  cases hr : one (sk B n (wd B n p)) cs with
  | inl x =>
    obtain ⟨k, z⟩ := x
    rw [hr] at s2
    have dd2 := s2.fault
    refine ⟨_, ?_, s2.close, f3.u (by decide)⟩
    rw [rt_dead dd2, Vk_v, k_X12_oneOf_158, show (!decide ((0 : Int32) = 0)) = false by decide +kernel, cond_false, r_wrong_dead dd2, Vk_n, k_X12_oneOf_170, one_dead dd2, Vk_n, k_X12_oneOf_174, r_tells_dead dd2, Vk_n, k_X12_oneOf_180]
  | inr x =>
    obtain ⟨p1, c1, A1, W1⟩ := x
    rw [hr] at s2 gg
    obtain ⟨s3, s4⟩ := s2
    obtain ⟨e1, e2, e3, e4, e5, e6, e7, e8⟩ := id gg
    obtain ⟨b, b1, b2⟩ := id s3.1
    have t := rt_16 (d := dd) (nn := nn) (L := L) (P := P) (E := E) (c := c) (s := s) b1
    rw [b2] at t
    rw [t, Vk_v, k_X12_oneOf_158, b2i_ne0]
    show ∃ J : FI, _ ∧ PoR B n (bif isW B n p1 (prgT 16) then bnd (one (sk B n (wd B n p1)) c1) (fun p2 c2 A2 W2 => .inr (p2, (4, 0) :: c2, A1 ||| A2, W1 ||| W2)) else .inl (1, p1)) A W o J ∧ FxR I J
    cases h16 : isW B n p1 (prgT 16) with
    | false =>
      have e4 : (up3 J2 186 0 4 (nI p1)) 186 0 4 = nI p1 := up3_i _ _ _ _ _
      have e5 : (up3 J2 186 0 4 (nI p1)) 186 0 5 = 0 := (up3_k (by decide)).trans b1.2.2.2
      have w : V PR (dd + 4) 214 0 [(0, vR (some (186, 0))), (1, vi (1 : Int32)), (2, vi (nI p1))] [] (mm nn (up3 J2 186 0 4 (nI p1)) L P E c s) = some (.inl none, mm nn (flR (up3 J2 186 0 4 (nI p1)) 1 p1) L P E c s) := r_wrong e5
      have dd2 : (!decide ((flR (up3 J2 186 0 4 (nI p1)) 1 p1) 186 0 5 = 0)) = true := flR_dead (by decide) (by decide)
      have P5 : PoR B n (.inl (1, p1)) A W (o + 1) (flR (up3 J2 186 0 4 (nI p1)) 1 p1) := by
        refine ⟨?_, ?_, by decide, by decide, p1, e2, ?_⟩
        · unfold flR
          rw [up3_k (by decide), up3_i]
        · unfold flR
          rw [up3_i]
        · unfold flR
          rw [up3_k (by decide), up3_k (by decide), up3_i]
      refine ⟨_, ?_, P5.close, ((f3.u (by decide)).fl).u (by decide)⟩
      rw [cond_false, if_neg (by decide), e4, w, Vk_n, k_X12_oneOf_170, one_dead dd2, Vk_n, k_X12_oneOf_174, r_tells_dead dd2, Vk_n, k_X12_oneOf_180]
    | true =>
      obtain ⟨g1, g2, g3⟩ := isW_wd h16 (by decide +kernel)
      have g4 := sk_ge (B := B) (n := n) (wd B n p1)
      have g5 := wd_le (B := B) (n := n) e2
      obtain ⟨J4, r4, t4, f4⟩ := ho nn L P E c s _ c1 _ _ _ (s3.mv g5) (hL.fx (f3.u (by decide))) (sk_bl _) (by omega) ((up3_k (by decide)).trans s4)
      have gg2 := hg (sk B n (wd B n p1)) c1 (sk_le g5) (sk_bl _)
      have f5 : FxR I J4 := (f3.u (by decide)).tr f4
      rw [cond_true, cond_true, if_pos rfl, r4, Vk_n, k_X12_oneOf_174]
      cases hr2 : one (sk B n (wd B n p1)) c1 with
      | inl x =>
        obtain ⟨k, z⟩ := x
        rw [hr2] at t4
        have P5 : PoR B n (.inl (k, z)) A W (o + 1) J4 := t4
        refine ⟨_, ?_, P5.close, f5.u (by decide)⟩
        rw [r_tells_dead P5.fault, Vk_n, k_X12_oneOf_180]
      | inr x =>
        obtain ⟨p2, c2, A2, W2⟩ := x
        rw [hr2] at t4 gg2
        obtain ⟨t5, t6⟩ := t4
        obtain ⟨u1, u2, u3, u4, u5, u6, u7, u8⟩ := id gg2
        obtain ⟨b', b1', b2'⟩ := t5.1
        have T : V PR (dd + 4) 234 0 [(0, vR (some (186, 0))), (1, vi (4 : Int32)), (2, vi (0 : Int32))] [] (mm nn J4 L P E c s) = some (.inl none, mm nn (telR J4 c2.length (nI 4) (nI 0)) L P E c s) := r_tells b1'.2.2.2 (by omega) t5.2.1 (nI 4) (nI 0)
        have S5 := t5.tell (4, 0)
        rw [Nat.or_assoc, Nat.or_assoc] at S5
        have P5 : PoR B n (.inr (p2, (4, 0) :: c2, A1 ||| A2, W1 ||| W2)) A W (o + 1) (telR J4 c2.length (nI 4) (nI 0)) := ⟨S5, telR_8.trans t6⟩
        refine ⟨_, ?_, P5.close, f5.tel.u (by decide)⟩
        rw [T, Vk_n, k_X12_oneOf_180]
/-- says -/
theorem b_say {dd o : Nat} {one : Nat → List (Nat × Nat) → Rs} (h150 : n ≤ 150) (ho : CtR B n N wn wl (dd + 1) 238 (o + 1) one) (hg : GRs B n N wn one) (hS : StPh B n I p cs A W) (hA : AtR B n I p) (hL : LdR N wn wl I) (hw : isW B n p (prgT 15) = true) (hl : cs.length ≤ p) (h8 : I 186 0 8 = nI (o + 1)) : ∃ J : FI, V PR (dd + 3) 238 212 [(0, vR (some (186, 0)))] [vi (1 : Int32)] (mm nn I L P E c s) = some (.inl none, mm nn J L P E c s) ∧ PoR B n (sayR B n wn wl one (sk B n (wd B n p)) cs) A W o J ∧ FxR I J := by
  obtain ⟨m1, m2, m3⟩ := isW_wd hw (by decide +kernel)
  have t1 := sk_ge (B := B) (n := n) (wd B n p)
  have w1 := wd_le (B := B) (n := n) hS.lep
  have h6 := hL.2.2.2.1
  have hA1 := hA.mv w1
  have e190 : (up3 I 186 0 4 (nI (wd B n p))) 190 0 2 = nI wn := (up3_a (by decide)).trans hL.2.2.1
  have NU : V PR (dd + 2) 217 0 [(0, vR (some (186, 0))), (1, vi (0 : Int32)), (2, vi (nI wn - 1))] [] (mm nn (up3 I 186 0 4 (nI (wd B n p))) L P E c s) = _ := r_number (l := 0) (h := wn) (by decide) (by omega) (hiO_p (by omega)) hA1
  unfold sayR
  rw [k_X12_oneOf_212, n1t0, cond_true, r_skip hA.1 hA.2.1 hA.2.2.1, Vk_n, k_X12_oneOf_220, e190, NU]
  have q0 := sk_le (B := B) w1
  have bad : ∀ k, (k = 1 ∨ k = 2) → ∃ J : FI, Vk (dd + 2) 238 231 [vR (some (186, 0))] [(0, vR (some (186, 0)))] (some (.inl (some (vi (0 : Int32))), mm nn (flR (up3 (up3 I 186 0 4 (nI (wd B n p))) 186 0 4 (nI (dg B n (sk B n (wd B n p))))) k (sk B n (wd B n p))) L P E c s)) = some (.inl none, mm nn J L P E c s) ∧ PoR B n (.inl (k, sk B n (wd B n p))) A W o J ∧ FxR I J := by
    intro k hk
    obtain ⟨J0, hJ0⟩ : ∃ J0, J0 = flR (up3 (up3 I 186 0 4 (nI (wd B n p))) 186 0 4 (nI (dg B n (sk B n (wd B n p))))) k (sk B n (wd B n p)) := ⟨_, rfl⟩
    have f0 : FxR I J0 := by rw [hJ0]; exact ((FxR.rfl'.u (by decide)).u (by decide)).fl
    have j5 : J0 186 0 5 = nI k := by rw [hJ0]; unfold flR; rw [up3_k (by decide), up3_i]
    have j4 : J0 186 0 4 = nI (dg B n (sk B n (wd B n p))) := by rw [hJ0]; unfold flR; rw [up3_k (by decide), up3_k (by decide), up3_i]
    have j6 : J0 186 0 6 = nI (sk B n (wd B n p)) := by rw [hJ0]; unfold flR; rw [up3_i]
    have dd0 : (!decide ((up3 (up3 J0 246 0 1 0) 246 0 2 0) 186 0 5 = 0)) = true := by
      rw [up3_a (by decide), up3_a (by decide)]
      exact dead_of j5 (by omega) (by omega)
    obtain ⟨J3, r3, e3, f3⟩ := says_dead (d := dd + 1) (nn := nn) (L := L) (P := P) (E := E) (c := c) (s := s) (w := 0) (x2 := J0 246 0 1) (x3 := J0 246 0 2) (by decide) dd0
    have P5 : PoR B n (.inl (k, sk B n (wd B n p))) A W (o + 1) J3 := ⟨(e3 5).trans ((by rw [up3_a (by decide), up3_a (by decide)] : (up3 (up3 J0 246 0 1 0) 246 0 2 0) 186 0 5 = J0 186 0 5).trans j5), (e3 6).trans ((by rw [up3_a (by decide), up3_a (by decide)] : (up3 (up3 J0 246 0 1 0) 246 0 2 0) 186 0 6 = J0 186 0 6).trans j6), by omega, by omega, _, dg_le (B := B) (n := n) q0, (e3 4).trans ((by rw [up3_a (by decide), up3_a (by decide)] : (up3 (up3 J0 246 0 1 0) 246 0 2 0) 186 0 4 = J0 186 0 4).trans j4)⟩
    refine ⟨_, ?_, P5.close, (((f0.v (.inr rfl)).v (.inr rfl)).tr f3).u (by decide)⟩
    rw [← hJ0, Vk_v, k_X12_oneOf_234, k_X12_saysOf_0, one_dead dd0, Vk_n]
    exact (congrArg (Vk (dd + 2) 238 234 [] [(0, vR (some (186, 0)))]) r3).trans (by rw [Vk_n, k_X12_oneOf_237])
  rcases nuF_n0 (B := B) (n := n) (q := sk B n (wd B n p)) (l := 0) (h := wn) with e0 | e0 | e0
  · obtain ⟨d1, -, d2⟩ := nuF_ok e0
    have s4 := dg_gt d1
    have s5 := sk_ge (B := B) (n := n) (dg B n (sk B n (wd B n p)))
    have s6 := dg_le (B := B) (n := n) q0
    have S3 := (hS.mv w1).mv s6
    obtain ⟨J, r9, s9, f9⟩ := r_says (nn := nn) (L := L) (P := P) (E := E) (c := c) (s := s) h150 ho hg d2 S3 (hL.fx ((FxR.rfl'.u (by decide)).u (by decide))) (sk_bl _) (by omega) (by rw [up3_k (by decide), up3_k (by decide)]; exact h8)
    rw [decide_eq_true e0, cond_true, cond_true, Vk_v, k_X12_oneOf_234, r9, Vk_n, k_X12_oneOf_237]
    exact ⟨_, rfl, s9.close, (((FxR.rfl'.u (by decide)).u (by decide)).tr f9).u (by decide)⟩
  · rw [e0, show decide (1 = 0) = false from rfl, cond_false, cond_false]
    exact bad 1 (.inl rfl)
  · rw [e0, show decide (2 = 0) = false from rfl, cond_false, cond_false]
    exact bad 2 (.inr rfl)
end PhrT
