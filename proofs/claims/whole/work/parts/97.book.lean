/-! PROMISES 24, 41, 19: deaf, be, tear. -/
section Book
variable {d n t : Nat} {I J : FI} {L K : FL} {P : FR} {E : FE} {c s : Nat}
/-- after a call, nothing of the two sides changed: as at its begin, one call on -/
theorem Rl.on (h : Rl t I L P E c s) : Rl (t + 1) I L P E c s := h.side Kp.rfl' Kp.rfl' Kc.rfl' Kc.rfl' h.2.2.2.2.2.2.2.2.2.2.2.1
theorem g_deaf (h : Rl t I L P E c s) : LGo (d + 30) n t 24 I L P E c s := by
  have kg : Kg I (up3 (up3 (up3 I 127 0 7 0) 186 0 0 0) 186 0 25 0) := ((Kg.rfl'.up (by decide)).up (by decide)).up (by decide)
  obtain ⟨-, hT, hl, -, -, -, hd, hh, ho, -⟩ := id h
  have hh2 : RHea (up3 (up3 (up3 I 127 0 7 0) 186 0 0 0) 186 0 25 0) L := ⟨rfl, (show (0 : Int32).toNatClampNeg ≤ 10 by decide +kernel), rfl, fun k hk => absurd hk (Nat.not_lt_zero k)⟩
  refine ⟨up3 (up3 (up3 I 127 0 7 0) 186 0 0 0) 186 0 25 0, L, P, E, c, s, ?_, h.on.mut kg Kg.rfl' hT hl hd hh2 ho⟩
  have e1 : I 127 0 7 = I 186 0 25 := hh.2.2.1
  have e2 : (up3 (up3 I 127 0 7 0) 186 0 0 0) 186 0 25 = I 186 0 25 := rfl
  rw [← at6]
  simp only [k_L_law_40_24, k_X11_deaf_0, Vk_v, Nat.reduceAdd, k_L_law_1621, k_X12_deaf_0, k_L_law_1625, e1, e2, decide_true, cond_true]
theorem g_be (h : Rl t I L P E c s) (hn : 6 * t + 6 ≤ n) (hN : n ≤ 3072) : LGo (d + 30) n t 41 I L P E c s := by
  refine en_41 h hn hN fun v hv ev h1 => ?_
  obtain ⟨-, hT, hl, -, -, -, hd, hh, ho, -⟩ := id h
  have h64 : 2 ^ zB I ≤ 2 ^ 6 := Nat.pow_le_pow_right (by decide) (zB_le hT)
  have ez : (nI v).toNatClampNeg = v := nI_clamp (by omega)
  have hs : I 127 0 0 = I 190 0 4 := hl.2.2.2.2.2.2.1
  have A : V PR (d + 28) 189 0 [(0, (vR (some (100, 0)))), (1, (vi (sc I t 1)))] [] (mm n I L P E c s) = some (.inl (some (vi (I 190 0 4))), mm n (up3 I 127 0 0 (nI v)) L P E c s) := by
    refine (cp_41 (d := d + 26) hT hl h1).trans ?_
    rw [ev, k_X11_be_5, hs]
  have B : V PR (d + 29) 314 0 [(0, (vR (some (186, 0)))), (1, (vi (sc I t 1)))] [] (mm n (up3 I 127 0 0 (nI v)) (up3 L 486 0 0 (I 190 0 4).toInt64) P E c s) = some (.inl (some (vi (I 190 0 4))), mm n (up3 (up3 (up3 I 127 0 0 (nI v)) 186 0 0 0) 190 0 4 (nI v)) (up3 L 486 0 0 (I 190 0 4).toInt64) P E c s) := by
    have hT1 : RTold (up3 I 127 0 0 (nI v)) := hT
    refine (rp_41 (d := d + 26) hT1 h1).trans ?_
    rw [ev, k_X12_be_24, d0t, cond_true]
    rfl
  have kg : Kg I (up3 (up3 (up3 I 127 0 0 (nI v)) 186 0 0 0) 190 0 4 (nI v)) := ((Kg.rfl'.up (by decide)).up (by decide)).up (by decide)
  have kl : Kg L (up3 L 486 0 0 (I 190 0 4).toInt64) := Kg.rfl'.up (by decide)
  have hT2 : RTold (up3 (up3 (up3 I 127 0 0 (nI v)) 186 0 0 0) 190 0 4 (nI v)) := by
    obtain ⟨t1, t2, t3, t4, t5, t6⟩ := hT
    refine ⟨t1, t2, t3, t4, ?_, t6⟩
    show nI v = nI ((nI v).toNatClampNeg) ∧ (nI v).toNatClampNeg < 2 ^ zB I
    rw [ez]
    exact ⟨rfl, hv⟩
  have hl2 : RLand (up3 (up3 (up3 I 127 0 0 (nI v)) 186 0 0 0) 190 0 4 (nI v)) (up3 L 486 0 0 (I 190 0 4).toInt64) := by
    obtain ⟨l1, l2, l3, l4, l5, l6, l7, l8, l9⟩ := hl
    exact ⟨l1, l2, l3, l4, l5, l6, rfl, l8, l9⟩
  exact ⟨_, _, P, E, c, s, ok_41 (d := d + 28) (I1 := up3 I 127 0 0 (nI v)) _ hn hN (fun _ => rfl) h.1.1 h.1.1 A B rfl (up3_i _ _ _ _ _), h.on.mut kg kl hT2 hl2 hd hh ho⟩
theorem nI_ltd {a b : Nat} (ha : a < 2 ^ 31) (hb : b < 2 ^ 31) : decide (nI a < nI b) = decide (a < b) := by
  rw [decide_eq_decide, Int32.lt_iff_toInt_lt, nI_toInt ha, nI_toInt hb]
  omega
theorem nI_led {a b : Nat} (ha : a < 2 ^ 31) (hb : b < 2 ^ 31) : decide (nI a ≤ nI b) = decide (a ≤ b) := by
  rw [decide_eq_decide, Int32.le_iff_toInt_le, nI_toInt ha, nI_toInt hb]
  omega
/-- how many answers a tearing leaves -/
theorem tear_cases (i : Int32) (a : Nat) (ha : a ≤ 60) : (∃ j, j < 2 ^ 31 ∧ i = nI j ∧ decide (0 ≤ i) = true ∧ decide (i < 0) = false) ∨ (decide (0 ≤ i) = false ∧ decide (i < 0) = true) := by
  by_cases h : i < 0
  · refine .inr ⟨decide_eq_false fun q => ?_, decide_eq_true h⟩
    rw [Int32.lt_iff_toInt_lt] at h
    rw [Int32.le_iff_toInt_le] at q
    omega
  · obtain ⟨j, hj, e⟩ := nI_of h
    refine .inl ⟨j, hj, e, decide_eq_true ?_, decide_eq_false h⟩
    rw [Int32.lt_iff_toInt_lt] at h
    rw [Int32.le_iff_toInt_le]
    omega
theorem sub_sub32 (a b : Int32) : a - (a - b) = b := by
  apply Int32.toBitVec_inj.mp
  rw [Int32.toBitVec_sub, Int32.toBitVec_sub]
  generalize a.toBitVec = x
  generalize b.toBitVec = y
  bv_omega
theorem sub_zero32 (a : Int32) : a - 0 = a := by
  have := sub_sub32 a a
  rwa [show a - a = 0 from by apply Int32.toBitVec_inj.mp; rw [Int32.toBitVec_sub]; exact BitVec.sub_self _] at this
theorem sub_self32 (a : Int32) : a - a = 0 := by
  apply Int32.toBitVec_inj.mp
  rw [Int32.toBitVec_sub]
  exact BitVec.sub_self _
theorem tear_two (h : RDia I L) (i : Int32) : ∃ k, k ≤ zA I ∧ (∀ d P E c s n, V PR (d + 1) 151 0 [(0, (vR (some (100, 0)))), (1, vi i)] [] (mm n I L P E c s) = some (.inl (some (vi (nI (zA I) - nI k))), mm n (up3 I 127 0 2 (nI k)) L P E c s)) ∧ ∀ d P E c s n, V PR d 276 0 [(0, (vR (some (186, 0)))), (1, vi i)] [] (mm n (up3 I 127 0 2 (nI k)) L P E c s) = some (.inl (some (vi (nI (zA I) - nI k))), mm n (up3 (up3 (up3 I 127 0 2 (nI k)) 186 0 0 0) 186 0 24 (nI k)) L P E c s) := by
  obtain ⟨h1, h2, h3, -⟩ := h
  have h4 : I 127 0 2 = nI (zA I) := h3.trans h1
  have e24 : ∀ k : Nat, (up3 (up3 I 127 0 2 (nI k)) 186 0 0 0) 186 0 24 = nI (zA I) := fun k => h1
  rcases tear_cases i (zA I) h2 with ⟨j, hj, rfl, q1, q2⟩ | ⟨q1, q2⟩
  · by_cases hja : zA I ≤ j
    · refine ⟨zA I, Nat.le_refl _, fun d P E c s n => ?_, fun d P E c s n => ?_⟩
      · rw [k_X11_tear_0, k_J9_max_7cf53_0, q2, cond_false, Vk_v, k_X11_tear_5, h4, k_J9_min_7cf53_0, nI_ltd (by omega) hj]
        by_cases h5 : zA I < j
        · rw [decide_eq_true h5, cond_true, Vk_v, k_X11_tear_15, h4]
        · rw [decide_eq_false h5, cond_false, show j = zA I by omega, Vk_v, k_X11_tear_15, h4]
      · rw [k_X12_tear_0, q1, cond_true, e24, nI_led (by omega) hj, decide_eq_true hja, cond_true, sub_zero32, sub_self32]
    · refine ⟨j, by omega, fun d P E c s n => ?_, fun d P E c s n => ?_⟩
      · rw [k_X11_tear_0, k_J9_max_7cf53_0, q2, cond_false, Vk_v, k_X11_tear_5, h4, k_J9_min_7cf53_0, nI_ltd (by omega) hj, decide_eq_false (by omega), cond_false, Vk_v, k_X11_tear_15, h4]
      · rw [k_X12_tear_0, q1, cond_true, e24, nI_led (by omega) hj, decide_eq_false hja, cond_false, sub_sub32]
  · refine ⟨0, Nat.zero_le _, fun d P E c s n => ?_, fun d P E c s n => ?_⟩
    · rw [k_X11_tear_0, k_J9_max_7cf53_0, q2, cond_true, Vk_v, k_X11_tear_5, h4, k_J9_min_7cf53_0, show (0 : Int32) = nI 0 from rfl, nI_ltd (by omega) (by decide), decide_eq_false (Nat.not_lt_zero _), cond_false, Vk_v, k_X11_tear_15, h4]
    · rw [k_X12_tear_0, q1, cond_false, e24]
      by_cases h0 : zA I = 0
      · rw [h0]; rfl
      · rw [show decide (nI (zA I) ≤ (0 : Int32)) = false from (nI_led (b := 0) (by omega) (by decide)).trans (decide_eq_false (by omega)), cond_false, sub_sub32]
        rfl
theorem g_tear (h : Rl t I L P E c s) (hn : 6 * t + 6 ≤ n) (hN : n ≤ 3072) : LGo (d + 30) n t 19 I L P E c s := by
  obtain ⟨-, hT, hl, -, -, -, hd, hh, ho, -⟩ := id h
  obtain ⟨k, hk, A, B⟩ := tear_two hd (sc I t 1)
  have kg : Kg I (up3 (up3 (up3 I 127 0 2 (nI k)) 186 0 0 0) 186 0 24 (nI k)) := ((Kg.rfl'.up (by decide)).up (by decide)).up (by decide)
  have hd2 : RDia (up3 (up3 (up3 I 127 0 2 (nI k)) 186 0 0 0) 186 0 24 (nI k)) L := by
    obtain ⟨d1, d2, d3, d4⟩ := hd
    have ez : (nI k).toNatClampNeg = k := nI_clamp (by omega)
    refine ⟨?_, ?_, rfl, fun j hj => ?_⟩
    · show nI k = nI (nI k).toNatClampNeg
      rw [ez]
    · show (nI k).toNatClampNeg ≤ 60
      rw [ez]
      omega
    · have hj2 : j < (nI k).toNatClampNeg := hj
      rw [ez] at hj2
      exact d4 j (by omega)
  obtain ⟨i1, i2, i3, i4, i5⟩ := sc_in (t := t) hn hN
  refine ⟨_, L, P, E, c, s, ?_, h.on.mut kg Kg.rfl' hT hl hd2 hh ho⟩
  have e0 : (up3 I 127 0 2 (nI k)) 0 0 (nI (6 * t) + 1).toNatClampNeg = sc I t 1 := rfl
  rw [← at6]
  simp only [k_L_law_40_19, i1, cond_true, A, Vk_v, Nat.reduceAdd, k_L_law_1427, e0, B, k_L_law_1437, decide_true]
end Book
