/-! THE TONGUE: the reference reads one. -/
section PhrS
variable {B : Nat → Nat} {n N wn : Nat} {wl : Nat → Nat} {d nn : Nat} {I J : FI} {L : FL} {P : FR} {E : FE} {c s p a o : Nat} {cs : List (Nat × Nat)} {A W : Nat}
theorem at_same (h : AtR B n I p) (hb : blB B n p = false) : up3 I 186 0 4 (nI (sk B n p)) = I := up3_same (by rw [sk_id hb]; exact h.2.2.1)
theorem r_opens (h : AtR B n I a) (h8 : I 186 0 8 = nI o) (ho : o ≤ 6) : V PR (d + 1) 235 0 [(0, vR (some (186, 0)))] [] (mm nn I L P E c s) = bif decide (o = 6) then some (.inl (some (vi (0 : Int32))), mm nn (flR I 3 a) L P E c s) else some (.inl (some (vi (1 : Int32))), mm nn (up3 I 186 0 8 (nI (o + 1))) L P E c s) := by
  have e5 : (up3 I 186 0 8 (nI (o + 1))) 186 0 5 = 0 := (up3_k (by decide)).trans h.2.2.2
  rw [k_X12_opens_0, h.2.2.2, n0t, cond_false, h8, show decide (nI o = (6 : Int32)) = decide (o = 6) from decide_eq_decide.mpr (nI_eq (b := 6) (by omega) (by decide)), cond_false, nI_1, e5, n0t, cond_false]
  by_cases q : o = 6
  · have w : V PR d 214 0 [(0, vR (some (186, 0))), (1, vi (3 : Int32)), (2, vi (nI a))] [] (mm nn I L P E c s) = some (.inl none, mm nn (flR I 3 a) L P E c s) := r_wrong h.2.2.2
    rw [decide_eq_true q, Bool.not_true, cond_false, cond_true, h.2.2.1, w, Vk_n, k_X12_opens_25, flR_dead (by decide) (by decide), cond_true]
  · rw [decide_eq_false q, Bool.not_false, cond_true, cond_false]
theorem sg_iff {p w : Nat} (hw : (w < 48 ∨ 57 < w) ∧ (w < 97 ∨ 122 < w)) : (decide (p < n) && decide (B p = w)) = sgB B n p w := by
  unfold sgB kdT
  by_cases h : p < n
  · rw [decide_eq_true h, Bool.true_and, if_neg (by omega)]
    by_cases e : B p = w
    · have h1 : smB B n p = false := by
        cases q : smB B n p with
        | false => rfl
        | true => have := sm_r q; omega
      have h2 : dgB B n p = false := by
        cases q : dgB B n p with
        | false => rfl
        | true => have := dg_r q; omega
      rw [h1, h2, if_neg (by decide), if_neg (by decide), decide_eq_true e]
      rfl
    · rw [decide_eq_false e, Bool.and_false]
  · rw [decide_eq_false h, Bool.false_and, if_pos (by omega)]
    rfl
theorem sg_noW {k : Nat} {p w : Nat} (h : sgB B n p w = true) (hk : 2 ≤ (prgT k).length) : isW B n p (prgT k) = false := by
  cases q : isW B n p (prgT k) with
  | false => rfl
  | true =>
    obtain ⟨q1, -⟩ := isW_wd q hk
    unfold sgB at h
    rw [Bool.and_eq_true] at h
    have h1 := of_decide_eq_true h.1
    have hl := sm_lt q1
    unfold kdT at h1
    rw [if_neg (by omega), if_pos q1] at h1
    cases h1
theorem at_noW {k : Nat} {p : Nat} (h : atB B n N p = true) (hk : 2 ≤ (prgT k).length) : isW B n p (prgT k) = false := by
  cases q : isW B n p (prgT k) with
  | false => rfl
  | true =>
    obtain ⟨q1, q2, -⟩ := isW_wd q hk
    have := (at_ok h).2.1
    omega
theorem at_nos {p w : Nat} (h : atB B n N p = true) : sgB B n p w = false := by
  have hs := (at_ok h).1
  have hl := sm_lt hs
  unfold sgB kdT
  rw [if_neg (by omega), if_pos hs]
  rfl
theorem in_at : ∀ b, b < 256 → ∀ N, N ≤ 4 → inR (nI b - 97) 0 (nI N - 1) = (decide (97 ≤ b) && decide (b - 97 < N)) := by decide +kernel
theorem in_atm : ∀ N, N ≤ 4 → inR ((-1 : Int32) - 97) 0 (nI N - 1) = false := by decide +kernel
/-- behind the openers: an atom, or nothing that can stand there -/
theorem r_atom (h150 : n ≤ 150) (hS : StPh B n I p cs A W) (hA : AtR B n I p) (hL : LdR N wn wl I) (hl : cs.length ≤ p) (h8 : I 186 0 8 = nI o) : ∃ J : FI, Vk (d + 1) 238 255 [] [(0, vR (some (186, 0)))] (V PR (d + 1) 212 0 [(0, vR (some (186, 0))), (1, vi (I 186 0 4))] [] (mm nn I L P E c s)) = some (.inl none, mm nn J L P E c s) ∧ PoR B n (bif atB B n N p then atR B n p cs else .inl (1, p)) A W o J ∧ FxR I J := by
  have hT := hA.1
  have h6 := hT.1
  have h4 := hL.2.1
  have hbp : ∀ k, k < n → B k < 256 := hT.2.2.1
  have w1 : V PR (d + 1) 214 0 [(0, vR (some (186, 0))), (1, vi (1 : Int32)), (2, vi (nI p))] [] (mm nn I L P E c s) = some (.inl none, mm nn (flR I 1 p) L P E c s) := r_wrong hA.2.2.2
  have fl : ∃ J : FI, Vk (d + 1) 238 300 [] [(0, vR (some (186, 0))), (1, vi (byV B n p - 97))] (V PR (d + 1) 214 0 [(0, vR (some (186, 0))), (1, vi (1 : Int32)), (2, vi (nI p))] [] (mm nn I L P E c s)) = some (.inl none, mm nn J L P E c s) ∧ PoR B n (.inl (1, p)) A W o J ∧ FxR I J := by
    refine ⟨flR I 1 p, ?_, ⟨?_, ?_, by decide, by decide, p, hA.2.1, ?_⟩, FxR.rfl'.fl⟩
    · rw [w1, Vk_n, k_X12_oneOf_303, dead_f (flR_dead (by decide) (by decide)), cond_false]
    · unfold flR
      rw [up3_k (by decide), up3_i]
    · unfold flR
      rw [up3_i]
    · unfold flR
      rw [up3_k (by decide), up3_k (by decide)]
      exact hA.2.2.1
  rw [hA.2.2.1, r_byte hT (by have := hA.2.1; omega), Vk_v, k_X12_oneOf_258, c_in, Vk_v, k_X12_oneOf_275, b2i_eq0, hL.1, hA.2.2.1]
  have hin : inR (byV B n p - 97) 0 (nI N - 1) = (smB B n p && decide (B p - 97 < N)) := by
    unfold byV smB
    by_cases q : p < n
    · rw [if_pos q, in_at _ (hbp p q) N h4, decide_eq_true q, Bool.true_and]
      by_cases g : 97 ≤ B p
      · rw [decide_eq_true g, Bool.true_and, Bool.true_and]
        by_cases g2 : B p - 97 < N
        · rw [decide_eq_true g2, decide_eq_true (show B p ≤ 122 by omega)]
          rfl
        · rw [decide_eq_false g2, Bool.and_false]
      · rw [decide_eq_false g]
        rfl
    · rw [if_neg q, in_atm N h4, decide_eq_false q]
      rfl
  rw [hin]
  cases hs : smB B n p with
  | false =>
    rw [Bool.false_and, Bool.not_false, cond_true, show atB B n N p = false by unfold atB; rw [hs]; rfl, cond_false]
    exact fl
  | true =>
    rw [Bool.true_and]
    have hlt := sm_lt hs
    have hr := sm_r hs
    by_cases q : B p - 97 < N
    · have e1 : nI p + 1 = nI (p + 1) := nI_1 p
      rw [decide_eq_true q, Bool.not_true, cond_false, e1, r_byte hT (by omega), Vk_v, k_X12_oneOf_288, r_small hbp, Vk_v, k_X12_oneOf_291, b2i_eq0, hA.2.2.1]
      cases hs2 : smB B n (p + 1) with
      | true =>
        have ea : atB B n N p = false := by
          unfold atB
          rw [hs, Bool.true_and]
          have : wd B n p ≠ p + 1 := fun e => by
            have := wdr_out (B := B) (n := n) (p := p)
            rw [e, hs2] at this
            cases this
          rw [decide_eq_false this]
          rfl
        rw [ea, Bool.not_true, cond_false, cond_false]
        exact fl
      | false =>
        have ew : wd B n p = p + 1 := by
          unfold wd
          rw [show n - p = (n - (p + 1)) + 1 by omega, rnE_t hs, rnE_f hs2]
        have ea : atB B n N p = true := by
          unfold atB
          rw [hs, decide_eq_true ew, decide_eq_true q]
          rfl
        have hx : B p - 97 < 4 := by omega
        have eb : byV B n p - 97 = nI (B p - 97) := by
          unfold byV
          rw [if_pos hlt]
          exact pk_sub (b := 97) hr.1
        obtain ⟨o1, o2⟩ := or_nIb hS.2.2.2.2.2.1 hx
        obtain ⟨-, s2, s3, s4, s5, s6, s7, s8⟩ := id hS
        have S1 : StPh B n (up3 (up3 I 246 0 1 (nI (A ||| 2 ^ (B p - 97)))) 186 0 4 (nI (p + 1))) (sk B n (p + 1)) cs (A ||| 2 ^ (B p - 97)) W := by
          have A1 : AtR B n (up3 I 246 0 1 (nI (A ||| 2 ^ (B p - 97)))) p := hA.fx (fun b r j _ _ q2 => up3_a q2)
          refine ⟨⟨p + 1, A1.mv (by omega), rfl⟩, ?_, ?_, ?_, ?_, o2, s7, by rw [up3_k (by decide), up3_a (by decide)]; exact s8⟩
          · rw [up3_a (by decide), up3_k (by decide)]; exact s2
          · exact rskR.keep cs (fun j _ => by rw [up3_a (by decide), up3_a (by decide)]) s3
          · rw [up3_a (by decide), up3_i]
          · rw [up3_a (by decide), up3_k (by decide)]; exact s5
        have S2 := S1.tell (0, B p - 97)
        have e5 : (up3 (up3 I 246 0 1 (nI (A ||| 2 ^ (B p - 97)))) 186 0 4 (nI (p + 1))) 186 0 5 = 0 := by rw [up3_k (by decide), up3_a (by decide)]; exact hA.2.2.2
        have T : V PR (d + 1) 234 0 [(0, vR (some (186, 0))), (1, vi (0 : Int32)), (2, vi (nI (B p - 97)))] [] (mm nn (up3 (up3 I 246 0 1 (nI (A ||| 2 ^ (B p - 97)))) 186 0 4 (nI (p + 1))) L P E c s) = _ := r_tells e5 (show cs.length < 160 by omega) S1.2.1 (nI 0) (nI (B p - 97))
        refine ⟨telR (up3 (up3 I 246 0 1 (nI (A ||| 2 ^ (B p - 97)))) 186 0 4 (nI (p + 1))) cs.length (nI 0) (nI (B p - 97)), ?_, ?_, ((FxR.rfl'.v (.inr rfl)).u (by decide)).tel⟩
        · have e4 : (up3 I 246 0 1 (nI (A ||| 2 ^ (B p - 97)))) 186 0 4 = nI p := (up3_a (by decide)).trans hA.2.2.1
          rw [Bool.not_false, cond_true, hA.2.2.2, show decide ((0 : Int32) = 0) = true by decide +kernel, cond_true, s4, eb, o1, e4, nI_1, T, Vk_n, k_X12_oneOf_339]
        · rw [ea, cond_true]
          refine ⟨?_, ?_⟩
          · rw [Nat.or_zero]
            exact S2
          · rw [telR_8, up3_k (by decide), up3_a (by decide)]
            exact h8
    · rw [decide_eq_false q, Bool.not_false, cond_true, show atB B n N p = false by unfold atB; rw [decide_eq_false q, Bool.and_false, Bool.and_false], cond_false]
      exact fl
/-- says: the end, with a fault -/
theorem says_dead {w : Nat} {x2 x3 : Int32} (h6 : w < 6) (hd : (!decide (I 186 0 5 = 0)) = true) : ∃ J : FI, V PR (d + 1) 239 32 [(0, vR (some (186, 0))), (1, vi (nI w)), (2, vi x2), (3, vi x3)] [] (mm nn I L P E c s) = some (.inl none, mm nn J L P E c s) ∧ (∀ j, J 186 0 j = I 186 0 j) ∧ FxR I J := by
  refine ⟨up3 (up3 I 246 0 1 (I 246 0 1 ||| x2)) 246 0 2 ((up3 I 246 0 1 (I 246 0 1 ||| x2)) 246 0 2 ||| (x3 ||| ((1 : Int32) <<< (nI w &&& 31)))), ?_, fun j => by rw [up3_a (by decide), up3_a (by decide)], (FxR.rfl'.v (.inr rfl)).v (.inr rfl)⟩
  rw [k_X12_saysOf_32, c_knowsBy h6, Vk_v, k_X12_saysOf_50]
  cases decide (b2i (decide (I 246 0 1 &&& (I 198 (w + 1) 1 ^^^ (-1)) = 0) && decide (I 246 0 2 &&& (((1 : Int32) <<< (nI w &&& 31)) ^^^ (-1)) = 0)) = 0) with
  | true => rw [cond_true, r_tells_dead hd, Vk_n, k_X12_saysOf_63]
  | false => rw [cond_false, r_tells_dead hd, Vk_n, k_X12_saysOf_63]
theorem r_says {dd o w : Nat} {one : Nat → List (Nat × Nat) → Rs} (h150 : n ≤ 150) (ho : CtR B n N wn wl dd 238 o one) (hg : GRs B n N wn one) (hw : w < wn) {q : Nat} (hS : StPh B n I q cs A W) (hL : LdR N wn wl I) (hb : blB B n q = false) (hl : cs.length < q) (h8 : I 186 0 8 = nI o) : ∃ J : FI, V PR (dd + 1) 239 0 [(0, vR (some (186, 0))), (1, vi (nI w))] [] (mm nn I L P E c s) = some (.inl none, mm nn J L P E c s) ∧ PoR B n (bnd (one q cs) (fun p1 c1 A1 W1 => .inr (p1, (bif knW wl w A1 W1 then 5 else 6, w) :: c1, A1, W1 ||| 2 ^ w))) A W o J ∧ FxR I J := by
  have h6 : w < 6 := by have := hL.2.2.2.1; omega
  have hq : q ≤ n := by
    obtain ⟨a, h1, h2⟩ := hS.1
    rw [← h2]
    exact sk_le h1.2.1
  obtain ⟨hat, s2, s3, s4, s5, s6, s7, s8⟩ := id hS
  have S0 : StPh B n (up3 (up3 I 246 0 1 0) 246 0 2 0) q cs 0 0 := by
    obtain ⟨a, h1, h2⟩ := hat
    refine ⟨⟨a, h1.fx (fun b r j _ _ q2 => by rw [up3_a q2, up3_a q2]), h2⟩, ?_, ?_, ?_, up3_i _ _ _ _ _, by decide, by decide, by rw [up3_a (by decide), up3_a (by decide)]; exact s8⟩
    · rw [up3_k (by decide), up3_k (by decide)]; exact s2
    · exact rskR.keep cs (fun j _ => by rw [up3_a (by decide), up3_a (by decide)]) s3
    · rw [up3_k (by decide)]; exact up3_i _ _ _ _ _
  have f0 : FxR I (up3 (up3 I 246 0 1 0) 246 0 2 0) := (FxR.rfl'.v (.inr rfl)).v (.inr rfl)
  obtain ⟨J2, r2, t2, f2⟩ := ho nn L P E c s q cs 0 0 _ S0 (hL.fx f0) hb (by omega) (by rw [up3_a (by decide), up3_a (by decide)]; exact h8)
  have gg := hg q cs hq hb
  have hL2 := hL.fx (f0.tr f2)
  rw [k_X12_saysOf_0, r2, Vk_n, s4, s5]
  cases hr : one q cs with
  | inl x =>
    obtain ⟨k, z⟩ := x
    rw [hr] at t2
    obtain ⟨J3, r3, e3, f3⟩ := says_dead (d := dd) (nn := nn) (L := L) (P := P) (E := E) (c := c) (s := s) (x2 := nI A) (x3 := nI W) h6 (dead_of t2.1 t2.2.2.1 t2.2.2.2.1)
    exact ⟨J3, r3, ⟨(e3 5).trans t2.1, (e3 6).trans t2.2.1, t2.2.2.1, t2.2.2.2.1, t2.2.2.2.2.imp fun a h => ⟨h.1, (e3 4).trans h.2⟩⟩, (f0.tr f2).tr f3⟩
  | inr x =>
    obtain ⟨p1, c1, A1, W1⟩ := x
    rw [hr] at t2 gg
    obtain ⟨t3, t4⟩ := t2
    rw [Nat.zero_or, Nat.zero_or] at t3
    obtain ⟨e1, e2, e3, e4, e5, e6, e7, e8⟩ := id gg
    obtain ⟨⟨b, b1, b2⟩, u2, u3, u4, u5, u6, u7⟩ := id t3
    obtain ⟨w1, w2⟩ := hL2.2.2.2.2 w hw
    have ek : (decide (I 246 0 1 = I 246 0 1)) = true := decide_eq_true rfl
    have K : V PR dd 240 0 [(0, vR (some (186, 0))), (1, vi (nI w)), (2, vi (nI A1)), (3, vi (nI W1))] [] (mm nn J2 L P E c s) = some (.inl (some (vi (b2i (knW wl w A1 W1)))), mm nn J2 L P E c s) := by
      rw [c_knowsBy h6, w1]
      rfl
    have h2w : 2 ^ w ≤ 2 ^ 5 := Nat.pow_le_pow_right (by decide) (by omega)
    have hsh : ∀ w, w < 6 → (1 : Int32) <<< (nI w &&& 31) = nI (2 ^ w) := by decide +kernel
    have fin : ∀ y : Nat × Nat, ∃ J : FI, V PR (dd + 1) 239 63 [(0, vR (some (186, 0))), (1, vi (nI w)), (2, vi (nI A)), (3, vi (nI W))] [] (mm nn (telR J2 c1.length (nI y.1) (nI y.2)) L P E c s) = some (.inl none, mm nn J L P E c s) ∧ PoR B n (.inr (p1, y :: c1, A1, W1 ||| 2 ^ w)) A W o J ∧ FxR I J := by
      intro y
      have T := t3.tell y
      obtain ⟨⟨b', v1, v2⟩, v3, v4, v5, v6, v7, v8, v9⟩ := id T
      refine ⟨up3 (up3 (telR J2 c1.length (nI y.1) (nI y.2)) 246 0 1 (nI (A ||| A1))) 246 0 2 (nI (W ||| (W1 ||| 2 ^ w))), ?_, ⟨⟨⟨b', v1.fx (fun b r j _ _ q2 => by rw [up3_a q2, up3_a q2]), v2⟩, ?_, ?_, ?_, up3_i _ _ _ _ _, or16 s6 e6, or64 s7 (or64 e7 (by omega)), by rw [up3_a (by decide), up3_a (by decide)]; exact v9⟩, ?_⟩, (((f0.tr f2).tel).v (.inr rfl)).v (.inr rfl)⟩
      · have q1 : nI A1 ||| nI A = nI (A ||| A1) := by rw [nI_or (by omega) (by omega), Nat.or_comm]
        have q2 : nI W1 ||| (nI W ||| nI (2 ^ w)) = nI (W ||| (W1 ||| 2 ^ w)) := by
          have h1 := or64 s7 (show 2 ^ w < 64 by omega)
          rw [nI_or (by omega) (by omega), nI_or (by omega) (by omega), ← Nat.or_assoc, Nat.or_comm W1 W, Nat.or_assoc]
        have q3 : ∀ x, (up3 (telR J2 c1.length (nI y.1) (nI y.2)) 246 0 1 x) 246 0 2 = nI W1 := fun x => (up3_k (by decide)).trans v6
        rw [k_X12_saysOf_63, v5, q1, q3, hsh w h6, q2]
      · rw [up3_k (by decide), up3_k (by decide)]; exact v3
      · exact rskR.keep _ (fun j _ => by rw [up3_a (by decide), up3_a (by decide)]) v4
      · rw [up3_k (by decide)]; exact up3_i _ _ _ _ _
      · rw [up3_a (by decide), up3_a (by decide), telR_8]
        exact t4
    rw [k_X12_saysOf_32, u4, u5, K, Vk_v, k_X12_saysOf_50, b2i_eq0]
    show ∃ J : FI, _ ∧ PoR B n (.inr (p1, (bif knW wl w A1 W1 then 5 else 6, w) :: c1, A1, W1 ||| 2 ^ w)) A W o J ∧ FxR I J
    cases knW wl w A1 W1 with
    | true =>
      have T : V PR dd 234 0 [(0, vR (some (186, 0))), (1, vi (5 : Int32)), (2, vi (nI w))] [] (mm nn J2 L P E c s) = some (.inl none, mm nn (telR J2 c1.length (nI 5) (nI w)) L P E c s) := r_tells b1.2.2.2 (by omega) u2 (nI 5) (nI w)
      obtain ⟨J, r9, s9, f9⟩ := fin (5, w)
      refine ⟨J, ?_, s9, f9⟩
      rw [Bool.not_true, cond_false, T, Vk_n]
      exact r9
    | false =>
      have T : V PR dd 234 0 [(0, vR (some (186, 0))), (1, vi (6 : Int32)), (2, vi (nI w))] [] (mm nn J2 L P E c s) = some (.inl none, mm nn (telR J2 c1.length (nI 6) (nI w)) L P E c s) := r_tells b1.2.2.2 (by omega) u2 (nI 6) (nI w)
      obtain ⟨J, r9, s9, f9⟩ := fin (6, w)
      refine ⟨J, ?_, s9, f9⟩
      rw [Bool.not_false, cond_true, T, Vk_n]
      exact r9
end PhrS
