/-! THE TONGUE: the reference reads one, 3; a whole phrase on both sides. -/
section PhrU
variable {B : Nat → Nat} {n N wn : Nat} {wl : Nat → Nat} {d nn : Nat} {I J : FI} {L : FL} {P : FR} {E : FE} {c s p a o : Nat} {cs : List (Nat × Nat)} {A W : Nat}
theorem PoR.fl3 {k : Nat} (hk : 1 ≤ k ∧ k ≤ 3) (hp : p ≤ n) (h4 : J 186 0 4 = nI p) : PoR B n (.inl (k, p)) A W o (flR J k p) := by
  refine ⟨?_, ?_, hk.1, hk.2, p, hp, ?_⟩
  · unfold flR
    rw [up3_k (by decide), up3_i]
  · unfold flR
    rw [up3_i]
  · unfold flR
    rw [up3_k (by decide), up3_k (by decide)]
    exact h4
/-- one of a phrase -/
theorem one_r (h150 : n ≤ 150) (hN : N ≤ 4) (hw : wn ≤ 6) : ∀ k o, k + o = 6 → ∀ d, CtR B n N wn wl (d + 3 * k + 5) 238 o (oneR B n N wn wl k)
  | 0, o, ho, d => fun nn L P E c s p cs A W I hS hL hb hl h8 => by
    have e6 : o = 6 := by omega
    subst e6
    have hp := hS.lep
    have A1 := hS.at
    have S1 : StPh B n (up3 I 186 0 4 (nI p)) p cs A W := by
      have := hS.mv hp
      rwa [sk_id hb] at this
    have h81 : (up3 I 186 0 4 (nI p)) 186 0 8 = nI 6 := (up3_k (by decide)).trans h8
    have L1 := hL.fx (FxR.rfl'.u (I := I) (J := I) (k := 4) (x := nI p) (by decide))
    have f1 : FxR I (up3 I 186 0 4 (nI p)) := FxR.rfl'.u (by decide)
    have O : V PR (d + 3 + 1) 235 0 [(0, vR (some (186, 0)))] [] (mm nn (up3 I 186 0 4 (nI p)) L P E c s) = some (.inl (some (vi (0 : Int32))), mm nn (flR (up3 I 186 0 4 (nI p)) 3 p) L P E c s) := (r_opens A1 h81 (by decide)).trans (by rw [show decide (6 = 6) = true from rfl, cond_true])
    have hd : (!decide ((0 : Int32) = 0)) = false := by decide +kernel
    have bad : ∃ J : FI, some (.inl none, mm nn (flR (up3 I 186 0 4 (nI p)) 3 p) L P E c s) = (some (.inl none, mm nn J L P E c s) : Option (Out × Mem)) ∧ PoR B n (.inl (3, p)) A W 6 J ∧ FxR I J := ⟨_, rfl, PoR.fl3 (by decide) hp A1.2.2.1, f1.fl⟩
    show ∃ J : FI, V PR (d + 3 + 2) 238 0 _ [] _ = _ ∧ _ ∧ _
    rw [one_st hS, show d + 3 + 2 = d + 1 + 4 by omega, q_13 A1 hb, q_91 A1 hb]
    show ∃ J : FI, (bif _ then Vk (d + 1 + 3) 238 28 [] _ (V PR (d + 3 + 1) 235 0 _ [] _) else (bif _ then Vk (d + 1 + 3) 238 76 [] _ (V PR (d + 3 + 1) 235 0 _ [] _) else (bif _ then Vk (d + 1 + 3) 238 131 [] _ (V PR (d + 3 + 1) 235 0 _ [] _) else (bif _ then Vk (d + 1 + 3) 238 209 [] _ (V PR (d + 3 + 1) 235 0 _ [] _) else _)))) = _ ∧ _ ∧ _
    rw [O, Vk_v, Vk_v, Vk_v, Vk_v, k_X12_oneOf_31, k_X12_oneOf_79, k_X12_oneOf_134, k_X12_oneOf_212, hd, cond_false, cond_false, cond_false, cond_false]
    have X : ∃ J : FI, Vk (d + 3 + 1) 238 255 [] [(0, vR (some (186, 0)))] (V PR (d + 3 + 1) 212 0 [(0, vR (some (186, 0))), (1, vi ((up3 I 186 0 4 (nI p)) 186 0 4))] [] (mm nn (up3 I 186 0 4 (nI p)) L P E c s)) = some (.inl none, mm nn J L P E c s) ∧ PoR B n (bif atB B n N p then atR B n p cs else .inl (1, p)) A W 6 J ∧ FxR (up3 I 186 0 4 (nI p)) J := r_atom h150 S1 A1 L1 hl h81
    unfold oneR chR
    cases ha : atB B n N p with
    | true =>
      rw [at_noW ha (by decide +kernel), at_noW (k := 14) ha (by decide +kernel), at_noW (k := 15) ha (by decide +kernel), at_nos ha, cond_false, cond_false, cond_false, cond_false, cond_true]
      obtain ⟨J, x1, x2, x3⟩ := X
      rw [ha, cond_true] at x2
      exact ⟨J, x1, x2, f1.tr x3⟩
    | false =>
      cases h91 : sgB B n p 91 with
      | true =>
        rw [sg_noW h91 (by decide +kernel), cond_false, cond_true, cond_false, cond_true]
        exact bad
      | false =>
        cases isW B n p (prgT 13) with
        | true => exact bad
        | false =>
          cases isW B n p (prgT 14) with
          | true => exact bad
          | false =>
            cases isW B n p (prgT 15) with
            | true => exact bad
            | false =>
              obtain ⟨J, x1, x2, x3⟩ := X
              rw [ha, cond_false] at x2
              exact ⟨J, x1, x2, f1.tr x3⟩
  | k + 1, o, ho, d => fun nn L P E c s p cs A W I hS hL hb hl h8 => by
    have hp := hS.lep
    have A1 := hS.at
    have S1 : StPh B n (up3 I 186 0 4 (nI p)) p cs A W := by
      have := hS.mv hp
      rwa [sk_id hb] at this
    have h81 : (up3 I 186 0 4 (nI p)) 186 0 8 = nI o := (up3_k (by decide)).trans h8
    have L1 := hL.fx (FxR.rfl'.u (I := I) (J := I) (k := 4) (x := nI p) (by decide))
    have f1 : FxR I (up3 I 186 0 4 (nI p)) := FxR.rfl'.u (by decide)
    obtain ⟨I2, hI2⟩ : ∃ I2, I2 = up3 (up3 I 186 0 4 (nI p)) 186 0 8 (nI (o + 1)) := ⟨_, rfl⟩
    have O : V PR (d + 3 * k + 6 + 1) 235 0 [(0, vR (some (186, 0)))] [] (mm nn (up3 I 186 0 4 (nI p)) L P E c s) = some (.inl (some (vi (1 : Int32))), mm nn I2 L P E c s) := (r_opens A1 h81 (by omega)).trans (by rw [decide_eq_false (show ¬ o = 6 by omega), cond_false, hI2])
    have S2 : StPh B n I2 p cs A W := by rw [hI2]; exact S1.o8 _
    have A2 : AtR B n I2 p := by rw [hI2]; exact A1.fx (fun b r j q _ _ => up3_o (fun g => q g.1 g.2.2))
    have f2 : FxR I I2 := by rw [hI2]; exact f1.u (by decide)
    have L2 := hL.fx f2
    have h82 : I2 186 0 8 = nI (o + 1) := by rw [hI2, up3_i]
    have gr := one_gr (B := B) (n := n) (wl := wl) hN hw k
    have ih0 : ∀ d, CtR B n N wn wl (d + 3 * k + 5) 238 (o + 1) (oneR B n N wn wl k) := one_r h150 hN hw k (o + 1) (by omega)
    have i1 : CtR B n N wn wl (d + 3 * k + 1 + 4) 238 (o + 1) (oneR B n N wn wl k) := ih0 d
    have i2 : CtR B n N wn wl (d + 3 * k + 5 + 1) 238 (o + 1) (oneR B n N wn wl k) := by
      have := ih0 (d + 1)
      rwa [show d + 1 + 3 * k + 5 = d + 3 * k + 5 + 1 by omega] at this
    have i3 : CtR B n N wn wl (d + 3 * k + 6 + 1) 238 (o + 1) (oneR B n N wn wl k) := by
      have := ih0 (d + 2)
      rwa [show d + 2 + 3 * k + 5 = d + 3 * k + 6 + 1 by omega] at this
    have i4 : CtR B n N wn wl (d + 3 * k + 3 + 4) 238 (o + 1) (oneR B n N wn wl k) := i3
    rw [show d + 3 * (k + 1) + 5 = d + 3 * k + 6 + 2 by omega, one_st hS, show d + 3 * k + 6 + 2 = d + 3 * k + 4 + 4 by omega, q_13 A1 hb, q_91 A1 hb]
    show ∃ J : FI, (bif _ then Vk (d + 3 * k + 7) 238 28 [] _ (V PR (d + 3 * k + 6 + 1) 235 0 _ [] _) else (bif _ then Vk (d + 3 * k + 7) 238 76 [] _ (V PR (d + 3 * k + 6 + 1) 235 0 _ [] _) else (bif _ then Vk (d + 3 * k + 7) 238 131 [] _ (V PR (d + 3 * k + 6 + 1) 235 0 _ [] _) else (bif _ then Vk (d + 3 * k + 7) 238 209 [] _ (V PR (d + 3 * k + 6 + 1) 235 0 _ [] _) else _)))) = _ ∧ _ ∧ _
    rw [O, Vk_v, Vk_v, Vk_v, Vk_v]
    have X : ∃ J : FI, Vk (d + 3 * k + 6 + 1) 238 255 [] [(0, vR (some (186, 0)))] (V PR (d + 3 * k + 6 + 1) 212 0 [(0, vR (some (186, 0))), (1, vi ((up3 I 186 0 4 (nI p)) 186 0 4))] [] (mm nn (up3 I 186 0 4 (nI p)) L P E c s)) = some (.inl none, mm nn J L P E c s) ∧ PoR B n (bif atB B n N p then atR B n p cs else .inl (1, p)) A W o J ∧ FxR (up3 I 186 0 4 (nI p)) J := r_atom h150 S1 A1 L1 hl h81
    unfold oneR chR
    cases ha : atB B n N p with
    | true =>
      rw [at_noW ha (by decide +kernel), at_noW (k := 14) ha (by decide +kernel), at_noW (k := 15) ha (by decide +kernel), at_nos ha, cond_false, cond_false, cond_false, cond_false, cond_true]
      obtain ⟨J, x1, x2, x3⟩ := X
      rw [ha, cond_true] at x2
      exact ⟨J, x1, x2, f1.tr x3⟩
    | false =>
      cases h91 : sgB B n p 91 with
      | true =>
        rw [sg_noW h91 (by decide +kernel), cond_false, cond_true, cond_false, cond_true]
        obtain ⟨J, y1, y2, y3⟩ := b_bra (nn := nn) (L := L) (P := P) (E := E) (c := c) (s := s) h150 (pr_236 (dd := d + 3 * k + 1) h150 i1 gr) gr.any S2 A2 L2 h91 hl h82
        exact ⟨J, y1, y2, f2.tr y3⟩
      | false =>
        rw [cond_false, cond_false, cond_false]
        cases h13 : isW B n p (prgT 13) with
        | true =>
          rw [cond_true, cond_true]
          obtain ⟨J, y1, y2, y3⟩ := b_not (nn := nn) (L := L) (P := P) (E := E) (c := c) (s := s) h150 i3 gr S2 A2 L2 h13 hl h82
          exact ⟨J, y1, y2, f2.tr y3⟩
        | false =>
          rw [cond_false, cond_false]
          cases h14 : isW B n p (prgT 14) with
          | true =>
            rw [cond_true, cond_true]
            obtain ⟨J, y1, y2, y3⟩ := b_if (nn := nn) (L := L) (P := P) (E := E) (c := c) (s := s) h150 i4 gr S2 A2 L2 h14 hl h82
            exact ⟨J, y1, y2, f2.tr y3⟩
          | false =>
            rw [cond_false, cond_false]
            cases h15 : isW B n p (prgT 15) with
            | true =>
              rw [cond_true, cond_true]
              obtain ⟨J, y1, y2, y3⟩ := b_say (nn := nn) (L := L) (P := P) (E := E) (c := c) (s := s) h150 i2 gr S2 A2 L2 h15 hl h82
              exact ⟨J, y1, y2, f2.tr y3⟩
            | false =>
              rw [cond_false, cond_false]
              obtain ⟨J, x1, x2, x3⟩ := X
              rw [ha, cond_false] at x2
              exact ⟨J, x1, x2, f1.tr x3⟩
end PhrU
