/-! PROMISES 7, 8, 18, 19: told, well, diary, vein. -/
section Told
variable {d n t : Nat} {I : FI} {L : FL} {P : FR} {E : FE} {c s : Nat}
theorem inR_out {x : Int32} {b : Nat} (hb : b < 2 ^ 30) (h : inR x 0 (nI b) = false) : decide (x.toInt < 0 ∨ (b : Int) < x.toInt) = true := by
  have e0 : (0 : Int32).toInt = 0 := by decide +kernel
  rcases inR_no h with g | ⟨-, g⟩
  · have g2 := of_decide_eq_true g
    rw [Int32.lt_iff_toInt_lt, e0] at g2
    exact decide_eq_true (.inl g2)
  · have g2 := of_decide_eq_true g
    rw [Int32.lt_iff_toInt_lt, nI_toInt (by omega)] at g2
    exact decide_eq_true (.inr g2)
theorem told_out {x : Int32} (h : inR x 0 7 = false) : V PR (d + 1) 135 0 [(0, vR (some (100, 0))), (1, vi x)] [] (mm n I L P E c s) = Vk d 135 114 [] [] (V PR d 203 0 [(0, vR (some (100, 0))), (1, vi (0 : Int32))] [] (mm n I L P E c s)) := by
  rw [k_X11_told_0]
  exact (o_tswd (t := 112) (lt := [(0, (vR (some (100, 0))))]) f_135_1 (inR_out (b := 7) (by decide) h) tg_1_111 rfl).trans ((o_aload_n_n f_135_112 rfl).trans ((o_iconst_n f_135_113 ci_0).trans (o_ivirt (lv' := []) (ag := [(0, (vR (some (100, 0)))), (1, (vi (0 : Int32)))]) (rest := []) f_135_114 rfl ob_100 rfl rfl rfl rfl rfl)))
theorem g_told (h : Rl t I L P E c s) (hn : 6 * t + 6 ≤ n) (hN : n ≤ 3072) : LGo (d + 30) n t 5 I L P E c s := by
  obtain ⟨⟨hE, hc, -, -⟩, hT, hl, -, -, -, hd, hh, -⟩ := id h
  cases h1 : inR (sc I t 1) 0 7 with
  | false =>
    refine rf_5_1 (d := d + 28) 0 h hn hN ?_ ?_
    · rw [told_out h1, c_wantRight_f, Vk_x f_135_114 (show 135 < 332 by decide)]
    · simp only [k_X12_told_0, k_X12_told_13, k_X12_told_26, c_in, Vk_v, Nat.reduceAdd, b2i_f, n0f, d0t, d1f, cond_true, cond_false, decide_true, Bool.not_true, Bool.not_false, h1, c_bad1 (thr0 _) d1f (show (1 : Int32) = nI 1 from rfl) (show 1 < 2 by decide)]
      rfl
  | true =>
    obtain ⟨k, -, hk, ek⟩ := inR_two (a := 0) (b := 7) (by decide) (by decide) h1
    have hB : V PR (d + 29) 246 0 [(0, (vR (some (186, 0)))), (1, (vi (sc I t 1)))] [] (mm n I (up3 L 486 0 0 0) P E c s) = V PR (d + 29) 246 0 [(0, (vR (some (186, 0)))), (1, (vi (sc I t 1)))] [] (mm n I (up3 L 486 0 0 0) P E c s) := rfl
    have e4 : I 103 0 4 = nI (2 ^ zB I) := hl.2.2.2.2.1
    have e5 := st_val hT
    have k4 : decide ((4 : Int32) ≤ nI k) = decide (4 ≤ k) := nI_led (a := 4) (by decide) (by omega)
    have kq : ∀ j, j < 8 → decide (nI k = nI j) = decide (k = j) := fun j hj => by rw [decide_eq_decide]; exact nI_eq (by omega) (by omega)
    have hv : ∀ v : Int32, (V PR (d + 28) 135 0 [(0, (vR (some (100, 0)))), (1, (vi (nI k)))] [] (mm n I L P E c s) = some (.inl (some (vi v)), mm n I L P E c s)) → (∀ lv, V PR (d + 29) 246 0 [(0, (vR (some (186, 0)))), (1, (vi (nI k)))] [] (mm n I (up3 L 486 0 0 lv) P E c s) = some (.inl (some (vi v)), mm n (up3 I 186 0 0 0) (up3 L 486 0 0 lv) P E c s)) → LGo (d + 30) n t 5 I L P E c s := fun v A B => go_5 (d := d + 28) v h hn hN (by rw [ek]; exact A) (by rw [ek]; exact B _)
    rw [ek] at h1
    rcases (show k = 0 ∨ k = 1 ∨ k = 2 ∨ k = 3 ∨ k = 4 ∨ k = 5 ∨ k = 6 ∨ k = 7 by omega) with rfl | rfl | rfl | rfl | rfl | rfl | rfl | rfl
    · refine hv (I 190 0 0) ?_ fun lv => ?_
      · rw [k_X11_told_0, ← hl.1]; exact k_X11_told_s0_1 ..
      · simp only [k_X12_told_0, k_X12_told_13, k_X12_told_26, c_in, Vk_v, Nat.reduceAdd, b2i_t, n1t, n0f, d0t, d1f, cond_true, cond_false, decide_true, Bool.not_true, Bool.not_false, h1, c_bad0 (thr0 _), k4]
        rfl
    · refine hv (I 190 0 1) ?_ fun lv => ?_
      · rw [k_X11_told_0, ← hl.2.1]; exact k_X11_told_s1_1 ..
      · simp only [k_X12_told_0, k_X12_told_13, k_X12_told_26, c_in, Vk_v, Nat.reduceAdd, b2i_t, n1t, n0f, d0t, d1f, cond_true, cond_false, decide_true, Bool.not_true, Bool.not_false, h1, c_bad0 (thr0 _), k4]
        rfl
    · refine hv (I 190 0 2) ?_ fun lv => ?_
      · rw [k_X11_told_0, ← hl.2.2.1]; exact k_X11_told_s2_1 ..
      · simp only [k_X12_told_0, k_X12_told_13, k_X12_told_26, c_in, Vk_v, Nat.reduceAdd, b2i_t, n1t, n0f, d0t, d1f, cond_true, cond_false, decide_true, Bool.not_true, Bool.not_false, h1, c_bad0 (thr0 _), k4]
        rfl
    · refine hv (I 190 0 3) ?_ fun lv => ?_
      · rw [k_X11_told_0, ← hl.2.2.2.1]; exact k_X11_told_s3_1 ..
      · simp only [k_X12_told_0, k_X12_told_13, k_X12_told_26, c_in, Vk_v, Nat.reduceAdd, b2i_t, n1t, n0f, d0t, d1f, cond_true, cond_false, decide_true, Bool.not_true, Bool.not_false, h1, c_bad0 (thr0 _), k4]
        rfl
    · refine hv (nI (2 ^ zB I)) ?_ fun lv => ?_
      · rw [k_X11_told_0, ← e4]; exact k_X11_told_s4_1 ..
      · have q1 : decide ((4 : Int32) ≤ nI 4) = true := by decide +kernel
        have q2 : decide (nI 4 = (4 : Int32)) = true := by decide +kernel
        simp only [k_X12_told_0, k_X12_told_13, k_X12_told_26, c_in, Vk_v, Nat.reduceAdd, b2i_t, n1t, n0f, d0t, d1f, cond_true, cond_false, decide_true, Bool.not_true, Bool.not_false, h1, c_bad0 (thr0 _), q1, q2, k_X12_statesOf_v2_0, up3_a (show 190 ≠ 186 by decide), e5, k_X12_told_57]
    · refine hv (I 190 0 4) ?_ fun lv => ?_
      · rw [k_X11_told_0, ← hl.2.2.2.2.2.2.1]; exact k_X11_told_s5_1 ..
      · simp only [k_X12_told_0, k_X12_told_13, k_X12_told_26, c_in, Vk_v, Nat.reduceAdd, b2i_t, n1t, n0f, d0t, d1f, cond_true, cond_false, decide_true, Bool.not_true, Bool.not_false, h1, c_bad0 (thr0 _), k4]
        rfl
    · refine hv (I 186 0 24) ?_ fun lv => ?_
      · rw [k_X11_told_0, ← hd.2.2.1]; exact k_X11_told_s6_1 ..
      · simp only [k_X12_told_0, k_X12_told_13, k_X12_told_26, c_in, Vk_v, Nat.reduceAdd, b2i_t, n1t, n0f, d0t, d1f, cond_true, cond_false, decide_true, Bool.not_true, Bool.not_false, h1, c_bad0 (thr0 _), k4]
        rfl
    · refine hv (I 186 0 25) ?_ fun lv => ?_
      · rw [k_X11_told_0, ← hh.2.2.1]; exact k_X11_told_s7_1 ..
      · simp only [k_X12_told_0, k_X12_told_13, k_X12_told_26, c_in, Vk_v, Nat.reduceAdd, b2i_t, n1t, n0f, d0t, d1f, cond_true, cond_false, decide_true, Bool.not_true, Bool.not_false, h1, c_bad0 (thr0 _), k4]
        rfl
theorem well_out {x y : Int32} (h : inR y 0 5 = false) : V PR (d + 1) 136 5 [(0, vR (some (100, 0))), (1, vi x), (2, vi y)] [] (mm n I L P E c s) = Vk d 136 106 [] [] (V PR d 203 0 [(0, vR (some (100, 0))), (1, vi (0 : Int32))] [] (mm n I L P E c s)) := by
  rw [k_X11_well_5]
  exact (o_tswd (t := 104) (lt := [(0, (vR (some (100, 0)))), (1, (vi x))]) f_136_6 (inR_out (b := 5) (by decide) h) tg_6_98 rfl).trans ((o_aload_n_n f_136_104 rfl).trans ((o_iconst_n f_136_105 ci_0).trans (o_ivirt (lv' := []) (ag := [(0, (vR (some (100, 0)))), (1, (vi (0 : Int32)))]) (rest := []) f_136_106 rfl ob_100 rfl rfl rfl rfl rfl)))
theorem g_well (h : Rl t I L P E c s) (hn : 6 * t + 6 ≤ n) (hN : n ≤ 3072) : LGo (d + 30) n t 6 I L P E c s := by
  obtain ⟨⟨hE, hc, -, -⟩, hT, hl, hw, -⟩ := id h
  cases h1 : inR (sc I t 1) 0 (I 190 0 2 - 1) with
  | false =>
    refine rf_6_0 (d := d + 28) 0 h hn hN ?_ ?_
    · simp only [k_X11_well_0, c_wantWell, wt_well hT hl h1, cond_false, Vk_x f_136_2 (show 136 < 332 by decide)]
    · simp only [k_X12_well_0, k_X12_well_11, k_X12_well_24, k_X12_well_34, c_isWell, c_in, c_bad0 (thr0 _), Vk_v, Nat.reduceAdd, b2i_t, b2i_f, n1t, n0f, d0t, d1f, d2f, cond_true, cond_false, decide_true, Bool.not_true, Bool.not_false, up3_a (show 190 ≠ 186 by decide), refC_at hc (show 190 < 487 by decide) (show 190 ≠ 100 by decide), c_bad1 (thr0 _) d1f (show (0 : Int32) = nI 0 from rfl) (show 0 < 2 by decide), h1]
      rfl
  | true =>
    have ew : V PR (d + 28) 136 0 [(0, (vR (some (100, 0)))), (1, (vi (sc I t 1))), (2, (vi (sc I t 2)))] [] (mm n I L P E c s) = V PR (d + 28) 136 5 [(0, (vR (some (100, 0)))), (1, (vi (sc I t 1))), (2, (vi (sc I t 2)))] [] (mm n I L P E c s) := by
      simp only [k_X11_well_0, c_wantWell, wt_well hT hl h1, cond_true, Vk_n, Nat.reduceAdd]
    cases h2 : inR (sc I t 2) 0 5 with
    | false =>
      refine rf_6_1 (d := d + 28) 0 h hn hN ?_ ?_
      · rw [ew, well_out h2, c_wantRight_f, Vk_x f_136_106 (show 136 < 332 by decide)]
      · simp only [k_X12_well_0, k_X12_well_11, k_X12_well_24, k_X12_well_34, k_X12_well_47, c_isWell, c_in, c_bad0 (thr0 _), Vk_v, Nat.reduceAdd, b2i_t, b2i_f, n1t, n0f, d0t, d1f, d2f, cond_true, cond_false, decide_true, Bool.not_true, Bool.not_false, up3_a (show 190 ≠ 186 by decide), refC_at hc (show 190 < 487 by decide) (show 190 ≠ 100 by decide), c_bad1 (thr0 _) d2f (show (1 : Int32) = nI 1 from rfl) (show 1 < 2 by decide), h1, h2]
        rfl
    | true =>
      obtain ⟨w, hw', e1⟩ := is_well hT h1
      obtain ⟨k, -, hk, e2⟩ := inR_two (a := 0) (b := 5) (by decide) (by decide) h2
      have h6 : w < 6 := by have := hT.2.2.1.2; omega
      obtain ⟨⟨w1, w2, w3, w4, w5, w6⟩, -⟩ := hw w hw'
      refine go_6 (d := d + 28) (I 198 (w + 1) k) h hn hN (ew.trans ?_) ?_
      · rw [e1, e2, k_X11_well_5]
        have i6 := inb_nI h6 (show 6 ≤ 2 ^ 31 by decide)
        have ic := nI_clamp (show w < 2 ^ 31 by omega)
        rcases (show k = 0 ∨ k = 1 ∨ k = 2 ∨ k = 3 ∨ k = 4 ∨ k = 5 by omega) with rfl | rfl | rfl | rfl | rfl | rfl
        · refine (k_X11_well_s0_6 ..).trans ?_; rw [i6, ic, cond_true, w1]
        · refine (k_X11_well_s1_6 ..).trans ?_; rw [i6, ic, cond_true, w2]
        · refine (k_X11_well_s2_6 ..).trans ?_; rw [i6, ic, cond_true, w3]
        · refine (k_X11_well_s3_6 ..).trans ?_; rw [i6, ic, cond_true, w4]
        · refine (k_X11_well_s4_6 ..).trans ?_; rw [i6, ic, cond_true, w5]
        · refine (k_X11_well_s5_6 ..).trans ?_; rw [i6, ic, cond_true, w6]
      · simp only [k_X12_well_0, k_X12_well_11, k_X12_well_24, k_X12_well_34, k_X12_well_47, c_isWell, c_in, c_bad0 (thr0 _), Vk_v, Nat.reduceAdd, b2i_t, b2i_f, n1t, n0f, d0t, d1f, d2f, cond_true, cond_false, decide_true, Bool.not_true, Bool.not_false, up3_a (show 190 ≠ 186 by decide), h1, h2]
        rw [e1, e2, inb_nI h6 (by decide), cond_true, nI_clamp (show w < 2 ^ 31 by omega), aro_198, blt_t h6, inb_nI (show k < 6 by omega) (by decide), nI_clamp (show k < 2 ^ 31 by omega)]
        rfl
theorem g_diary (h : Rl t I L P E c s) (hn : 6 * t + 6 ≤ n) (hN : n ≤ 3072) : LGo (d + 30) n t 18 I L P E c s := by
  refine en_18 h hn hN fun k _ hk ek h1 => ?_
  obtain ⟨⟨hE, hc, -, -⟩, hT, hl, -, -, -, hd, -⟩ := id h
  have kk : Kp c I (up3 I 186 0 0 0) := Kp.rfl'.up rfl
  have e7 : I 127 0 2 = nI (zA I) := hd.2.2.1.trans hd.1
  have h60 := hd.2.1
  have R : ∀ {b : Bool} {lv}, inR (sc I t 1) 0 (I 186 0 24 - 1) = b → V PR (d + 29) 275 0 [(0, (vR (some (186, 0)))), (1, (vi (sc I t 1))), (2, (vi (sc I t 2)))] [] (mm n I (up3 L 486 0 0 lv) P E c s) = V PR (d + 29) 275 41 [(0, (vR (some (186, 0)))), (1, (vi (sc I t 1))), (2, (vi (sc I t 2)))] [vi (b2i b)] (mm n (up3 I 186 0 0 0) (up3 L 486 0 0 lv) P E c s) := fun {b lv} hq => by
    refine (rp_18 (I := I) hT h1).trans ?_
    rw [k_X12_diary_25, d0t, cond_true, up3_k (show 24 ≠ 0 by decide), c_in, hq, Vk_v]
  cases h2 : inR (sc I t 1) 0 (I 186 0 24 - 1) with
  | false =>
    refine go_18 (d := d + 28) (-1) h hn hN ((cp_18 hT hl h1).trans ?_) ((R h2).trans ?_)
    · rw [k_X11_diary_18, e7]
      rw [hd.1, ← inR_wn (by omega), le_lt32] at h2
      cases q1 : decide (sc I t 1 < 0) with
      | true => rfl
      | false =>
        rw [q1] at h2
        cases q2 : decide (sc I t 1 < nI (zA I)) with
        | true => rw [q2] at h2; cases h2
        | false => rfl
    · rw [k_X12_diary_41, b2i_f, n0f, cond_false]
  | true =>
    have h3 := h2
    rw [hd.1] at h3
    obtain ⟨j, hj, ej⟩ := inR_nat (by omega) h3
    have cC : V PR (d + 28) 150 0 [(0, (vR (some (100, 0)))), (1, (vi (sc I t 1))), (2, (vi (sc I t 2)))] [] (mm n I L P E c s) = V PR (d + 28) 150 36 [(0, (vR (some (100, 0)))), (1, (vi (nI j))), (2, (vi (nI k)))] [vi (nI k)] (mm n I L P E c s) := by
      refine (cp_18 hT hl h1).trans ?_
      rw [ej, ek, k_X11_diary_18, e7, decide_eq_false (nI_pos (by omega)), cond_false, nI_ltd (by omega) (by omega), decide_eq_true hj, cond_true]
    obtain ⟨d1, d2, d3, -⟩ := hd.2.2.2 j hj
    have i6 := inb_nI (show j < 60 by omega) (show 60 ≤ 2 ^ 31 by decide)
    have ic := nI_clamp (show j < 2 ^ 31 by omega)
    have small : ∀ v : Int32, k < 3 → I 248 (j + 1) k = v → (V PR (d + 28) 150 36 [(0, (vR (some (100, 0)))), (1, (vi (nI j))), (2, (vi (nI k)))] [vi (nI k)] (mm n I L P E c s) = some (.inl (some (vi v)), mm n I L P E c s)) → LGo (d + 30) n t 18 I L P E c s := fun v h3 hv A => by
      refine go_18 (d := d + 28) v h hn hN (cC.trans A) ((R h2).trans ?_)
      rw [ej, ek, k_X12_diary_41, b2i_t, n1t, cond_true, show decide ((3 : Int32) ≤ nI k) = false from (nI_led (a := 3) (by decide) (by omega)).trans (decide_eq_false (by omega)), cond_false, i6, ic, cond_true, aro_248, blt_t (show j < 60 by omega), inb_nI h3 (by decide), nI_clamp (show k < 2 ^ 31 by omega), ← hv]
      rfl
    rcases (show k = 0 ∨ k = 1 ∨ k = 2 ∨ k = 3 by omega) with rfl | rfl | rfl | rfl
    · refine small _ (by decide) d1.symm ((k_X11_diary_s0_36 ..).trans ?_); rw [i6, ic, cond_true]
    · refine small _ (by decide) d2.symm ((k_X11_diary_s1_36 ..).trans ?_); rw [i6, ic, cond_true]
    · refine small _ (by decide) d3.symm ((k_X11_diary_s2_36 ..).trans ?_); rw [i6, ic, cond_true]
    · refine go_18 (d := d + 28) (nI (pcL (lefV I L (-1) (j + 1)))) h hn hN (cC.trans ?_) ((R h2).trans ?_)
      · refine (k_X11_diary_s3_36 ..).trans ?_
        rw [nI_1, c_leftC hT hl hd (show j + 1 ≤ zA I by omega), Vk_v, k_X11_diary_s3_112, c_bitL, Vk_v, k_X11_diary_s3_115]
      · rw [ej, ek, k_X12_diary_41, b2i_t, n1t, cond_true, show decide ((3 : Int32) ≤ nI 3) = true by decide +kernel, cond_true, nI_1, c_leftR (hT.keep kk hc) (show j + 1 ≤ 60 by omega), Vk_v, k_X12_diary_72, c_ones, Vk_v, k_X12_diary_75]
        rfl
end Told
section Vein
variable {d n t : Nat} {I : FI} {L : FL} {P : FR} {E : FE} {c s : Nat}
def anyB (p : Nat → Bool) : Nat → Bool
  | 0 => false
  | k + 1 => anyB p k || p k
theorem anyB_f {p : Nat → Bool} : ∀ m, (∀ k, k < m → p k = false) → anyB p m = false
  | 0, _ => rfl
  | m + 1, h => by
    show (anyB p m || p m) = false
    rw [anyB_f m (fun k hk => h k (by omega)), h m (by omega)]
    rfl
theorem anyB_t {p : Nat → Bool} {k : Nat} (hp : p k = true) : ∀ m, k < m → anyB p m = true
  | 0, h => absurd h (Nat.not_lt_zero k)
  | m + 1, h => by
    show (anyB p m || p m) = true
    by_cases e : k = m
    · subst e; rw [hp, Bool.or_true]
    · rw [anyB_t hp m (by omega), Bool.true_or]
theorem anyB_ne {p : Nat → Bool} : ∀ m, anyB p m = true → ∃ k, k < m ∧ p k = true
  | 0, h => by cases h
  | m + 1, h => by
    have h2 : (anyB p m || p m) = true := h
    cases q : p m with
    | true => exact ⟨m, by omega, q⟩
    | false =>
      rw [q, Bool.or_false] at h2
      obtain ⟨k, hk, e⟩ := anyB_ne m h2
      exact ⟨k, by omega, e⟩
/-- none of so many states is in it -/
theorem any_0 (x : Int64) {m : Nat} (hm : ∀ s, m ≤ s → tb x s = false) : decide (x = 0) = !anyB (tb x) m := by
  cases h : anyB (tb x) m with
  | true =>
    obtain ⟨k, -, hk⟩ := anyB_ne m h
    refine decide_eq_false fun e => ?_
    rw [e, tb_0] at hk
    cases hk
  | false =>
    refine decide_eq_true (tb_ext fun s _ => ?_)
    rw [tb_0]
    cases hq : tb x s with
    | false => rfl
    | true =>
      by_cases hs : s < m
      · rw [anyB_t hq m hs] at h; cases h
      · rw [hm s (by omega)] at hq; cases hq
theorem anyB_congr {p q : Nat → Bool} : ∀ m, (∀ k, k < m → p k = q k) → anyB p m = anyB q m
  | 0, _ => rfl
  | m + 1, h => by
    show (anyB p m || p m) = (anyB q m || q m)
    rw [anyB_congr m (fun k hk => h k (by omega)), h m (by omega)]
def vnV (f o : Bool) : Int32 := bif f then (bif o then 2 else 0) else bif o then 1 else -1
def vnP (l : Int64) (b k st : Nat) : Bool := tb l st && decide (st / 2 ^ k % 2 = b)
theorem vein_R (hT : RTold I) {v : Nat} (hv : v < zV I) (l : Int64) : ∀ r e, e + r = 2 ^ zB I → V PR (d + 1) 274 51 [(0, vR (some (186, 0))), (1, vi (nI v)), (2, vL l), (4, vi (b2i (anyB (vnP l 0 (zN I + v)) e))), (5, vi (b2i (anyB (vnP l 1 (zN I + v)) e))), (6, vi (nI e))] [] (mm n I L P E c s) = some (.inl (some (vi (vnV (anyB (vnP l 0 (zN I + v)) (2 ^ zB I)) (anyB (vnP l 1 (zN I + v)) (2 ^ zB I))))), mm n I L P E c s)
  | 0, e, he => by
    have h64 : 2 ^ zB I ≤ 2 ^ 6 := Nat.pow_le_pow_right (by decide) (zB_le hT)
    rw [show e = 2 ^ zB I by omega, k_X12_vein_51, k_X12_statesOf_v2_0, Vk_v, k_X12_vein_60, st_val hT, nI_led (by omega) (by omega), decide_eq_true (Nat.le_refl _), cond_true]
    simp only [b2i_eq0]
    cases anyB (vnP l 0 (zN I + v)) (2 ^ zB I) <;> cases anyB (vnP l 1 (zN I + v)) (2 ^ zB I) <;> rfl
  | r + 1, e, he => by
    have h64 : 2 ^ zB I ≤ 2 ^ 6 := Nat.pow_le_pow_right (by decide) (zB_le hT)
    have hB := zB_le hT
    have hk : zN I + v < 6 := by unfold zB at hB; omega
    have A : V PR (d + 1) 274 51 [(0, vR (some (186, 0))), (1, vi (nI v)), (2, vL l), (4, vi (b2i (anyB (vnP l 0 (zN I + v)) e || (tb l e && decide (e / 2 ^ (zN I + v) % 2 = 0))))), (5, vi (b2i (anyB (vnP l 1 (zN I + v)) e || (tb l e && decide (e / 2 ^ (zN I + v) % 2 = 1))))), (6, vi (nI (e + 1)))] [] (mm n I L P E c s) = some (.inl (some (vi (vnV (anyB (vnP l 0 (zN I + v)) (2 ^ zB I)) (anyB (vnP l 1 (zN I + v)) (2 ^ zB I))))), mm n I L P E c s) := vein_R hT hv l r (e + 1) (by omega)
    have b0 : decide (nI (e / 2 ^ (zN I + v) % 2) = 0) = decide (e / 2 ^ (zN I + v) % 2 = 0) := nI_is0 (by omega)
    have b1 : decide (nI (e / 2 ^ (zN I + v) % 2) = 1) = decide (e / 2 ^ (zN I + v) % 2 = 1) := by rw [decide_eq_decide]; exact nI_eq (b := 1) (by omega) (by decide)
    have l1 : decide (lg_cmp (b2l (tb l e)) 1 = 0) = tb l e := by cases tb l e <;> decide +kernel
    rw [k_X12_vein_51, k_X12_statesOf_v2_0, Vk_v, k_X12_vein_60, st_val hT, nI_led (by omega) (by omega), decide_eq_false (by omega), cond_false, lsr_bit _ (show e < 64 by omega), l1, hT.1.1, nI_add, bit_of e (by omega) _ hk, b0, b1, nI_1]
    simp only [b2i_eq0, Bool.not_not]
    rcases (show e / 2 ^ (zN I + v) % 2 = 0 ∨ e / 2 ^ (zN I + v) % 2 = 1 by omega) with hz | hz
    · rw [hz] at A ⊢
      cases q1 : anyB (vnP l 0 (zN I + v)) e <;> cases q2 : anyB (vnP l 1 (zN I + v)) e <;> cases q3 : tb l e <;> (rw [q1, q2, q3] at A; exact A)
    · rw [hz] at A ⊢
      cases q1 : anyB (vnP l 0 (zN I + v)) e <;> cases q2 : anyB (vnP l 1 (zN I + v)) e <;> cases q3 : tb l e <;> (rw [q1, q2, q3] at A; exact A)
theorem g_vein (h : Rl t I L P E c s) (hn : 6 * t + 6 ≤ n) (hN : n ≤ 3072) : LGo (d + 30) n t 17 I L P E c s := by
  refine en_17 h hn hN fun v hv ev h1 => ?_
  obtain ⟨⟨hE, hc, -, -⟩, hT, hl, -, -, -, hd, -⟩ := id h
  have hbit : RBit L := h.2.2.2.2.2.2.2.2.2.2.2.2.2.2.1
  have k : Kp c I (up3 I 186 0 0 0) := Kp.rfl'.up rfl
  have h64 : 2 ^ zB I ≤ 2 ^ 6 := Nat.pow_le_pow_right (by decide) (zB_le hT)
  have hB := zB_le hT
  have hk : zN I + v < 6 := by unfold zB at hB; omega
  refine go_17 (d := d + 28) (vnV (anyB (vnP (lefV I L (-1) (zA I)) 0 (zN I + v)) (2 ^ zB I)) (anyB (vnP (lefV I L (-1) (zA I)) 1 (zN I + v)) (2 ^ zB I))) h hn hN ((cp_17 hT hl h1).trans ?_) ((rp_17 (I := I) hT h1).trans ?_)
  · have hh : ∀ {s}, 2 ^ zB I ≤ s → tb (lefV I L (-1) (zA I)) s = false := fun hs => lef_hi hT _ _ hs
    rw [ev, k_X11_vein_24, k_X2_veinStates_0, hl.1.trans hT.1.1, nI_add, decide_eq_false (nI_pos (by omega)), cond_false, show decide ((6 : Int32) ≤ nI (zN I + v)) = false from decide_eq_false (nI_ge (b := 6) (by omega) (by omega)), cond_false, inb_nI hk (by decide), cond_true, nI_clamp (by omega), Vk_v, k_X11_vein_33, k_X11_inAllLeft_0, c_statesLeft hT hl hd, Vk_v, k_X11_inAllLeft_4, hl.2.2.2.2.2.1, lgc0, lgc0, lgc0]
    generalize lefV I L (-1) (zA I) = l at hh ⊢
    have w : ∀ s, s < 64 → tb (L 1 0 (zN I + v) &&& allL (zB I)) s = (decide (s / 2 ^ (zN I + v) % 2 = 1) && decide (s < 2 ^ zB I)) := fun s hs => by rw [tb_and, hbit _ hk s hs, tb_all hB]
    have e1 : decide (l &&& (L 1 0 (zN I + v) &&& allL (zB I)) = 0) = !anyB (vnP l 1 (zN I + v)) (2 ^ zB I) := by
      rw [any_0 _ (m := 2 ^ zB I) (fun s hs => by rw [tb_and, hh hs, Bool.false_and])]
      refine congrArg _ (anyB_congr _ fun s hs => ?_)
      rw [tb_and, w s (by omega), decide_eq_true hs, Bool.and_true]
      rfl
    have e2 : decide (l &&& ((L 1 0 (zN I + v) &&& allL (zB I)) ^^^ (-1)) = 0) = !anyB (vnP l 0 (zN I + v)) (2 ^ zB I) := by
      rw [any_0 _ (m := 2 ^ zB I) (fun s hs => by rw [tb_and, hh hs, Bool.false_and])]
      refine congrArg _ (anyB_congr _ fun s hs => ?_)
      rw [tb_and, not_x (by omega), w s (by omega), decide_eq_true hs, Bool.and_true]
      unfold vnP
      rcases (show s / 2 ^ (zN I + v) % 2 = 0 ∨ s / 2 ^ (zN I + v) % 2 = 1 by omega) with hz | hz <;> rw [hz] <;> rfl
    have e0 : decide (l = 0) = (!anyB (vnP l 1 (zN I + v)) (2 ^ zB I) && !anyB (vnP l 0 (zN I + v)) (2 ^ zB I)) := by
      rw [← e1, ← e2]
      by_cases hq : l = 0
      · subst hq
        have z : ∀ x : Int64, (0 : Int64) &&& x = 0 := fun x => tb_ext fun s _ => by rw [tb_and, tb_0, Bool.false_and]
        rw [z, z]
        rfl
      · rw [decide_eq_false hq]
        by_cases q1 : l &&& (L 1 0 (zN I + v) &&& allL (zB I)) = 0
        · by_cases q2 : l &&& ((L 1 0 (zN I + v) &&& allL (zB I)) ^^^ (-1)) = 0
          · refine absurd (tb_ext fun s hs => ?_) hq
            have a1 := congrArg (fun x => tb x s) q1
            have a2 := congrArg (fun x => tb x s) q2
            simp only [tb_and l, not_x hs, tb_0] at a1 a2
            rw [tb_0]
            cases q3 : tb l s with
            | false => rfl
            | true =>
              rw [q3, Bool.true_and] at a1 a2
              rw [a1] at a2
              cases a2
          · rw [decide_eq_false q2, Bool.and_false]
        · rw [decide_eq_false q1, Bool.false_and]
    rw [e0, e1, e2]
    cases anyB (vnP l 0 (zN I + v)) (2 ^ zB I) <;> cases anyB (vnP l 1 (zN I + v)) (2 ^ zB I) <;> (simp only [Bool.not_true, Bool.not_false, Bool.and_true, Bool.true_and, Bool.and_false, cond_true, cond_false, Vk_v, Nat.reduceAdd, k_X11_vein_36]; rfl)
  · have kl : ∀ lv, Kp c L (up3 L 486 0 0 lv) := fun lv => Kp.rfl'.up rfl
    have F := fun lv => c_leftNow (d := d + 24) (n := n) (P := P) (E := E) (c := c) (s := s) (hT.keep k hc) (hd.keep k (kl lv) hc)
    have e : ∀ lv, lefV (up3 I 186 0 0 0) (up3 L 486 0 0 lv) (-1) (zA (up3 I 186 0 0 0)) = lefV I L (-1) (zA I) := fun lv => rfl
    rw [ev, k_X12_vein_32, d0t, cond_true, F, Vk_v, k_X12_vein_41, e]
    exact vein_R (I := up3 I 186 0 0 0) (d := d + 28) (hT.keep k hc) hv _ (2 ^ zB I) 0 (Nat.zero_add _)
end Vein
