/-! THE LAW'S LOOP: one call, one step. -/
abbrev lvL (x : Int32) : LVs := [(0, (vR (some (0, 0)))), (1, (vR (some (100, 0)))), (2, (vR (some (186, 0)))), (3, (vR (some (486, 0)))), (4, (vi x))]
/-- from the switch with this number the law comes to its loop's head again, both sides alike -/
def LGo (d n t : Nat) (x : Int32) (I : FI) (L : FL) (P : FR) (E : FE) (c s : Nat) : Prop := ∃ (I' : FI) (L' : FL) (P' : FR) (E' : FE) (c' s' : Nat), V PR d 374 40 (lvL (nI (6 * t))) [vi x] (mm n I L P E c s) = V PR d 374 23 (lvL (nI (6 * (t + 1)))) [] (mm n I' L' P' E' c' s') ∧ Rl (t + 1) I' L' P' E' c' s'
section Steps
variable {d n t : Nat} {I : FI} {L : FL} {P : FR} {E : FE} {c s : Nat}
theorem at6 (t : Nat) : nI (6 * t) + 6 = nI (6 * (t + 1)) := nI_add (6 * t) 6
theorem sc_in {n t : Nat} (hn : 6 * t + 6 ≤ n) (hN : n ≤ 3072) : inb (nI (6 * t) + 1) n = true ∧ inb (nI (6 * t) + 2) n = true ∧ inb (nI (6 * t) + 3) n = true ∧ inb (nI (6 * t) + 4) n = true ∧ inb (nI (6 * t) + 5) n = true := by
  have h : ∀ j, j < 6 → inb (nI (6 * t) + nI j) n = true := fun j hj => by
    rw [nI_add]
    exact inb_nI (by omega) (by omega)
  exact ⟨h 1 (by decide), h 2 (by decide), h 3 (by decide), h 4 (by decide), h 5 (by decide)⟩
/-- nothing but what is told on the side -/
theorem Rl.side {I' : FI} {L' : FL} (h : Rl t I L P E c s) (k : Kp c I I') (kl : Kp c L L') (q : Kc I I') (ql : Kc L L') (hr : RRef I') : Rl (t + 1) I' L' P E c s := h.keep k kl Kp.rfl' (fun _ _ => rfl) q ql hr (Nat.le_refl _) (by omega) (by omega)
theorem RRef.thr {x : Int32} (h : RRef I) : RRef (up3 I 186 0 0 x) := h
theorem g_default (h : Rl t I L P E c s) {k : Nat} (h1 : 55 ≤ k) (h2 : k < 64) : LGo d n t (nI k) I L P E c s := by
  refine ⟨I, L, P, E, c, s, ?_, h.side Kp.rfl' Kp.rfl' Kc.rfl' Kc.rfl' h.2.2.2.2.2.2.2.2.2.2.2.1⟩
  rw [← at6]
  have e : decide ((nI k).toInt < 0 ∨ 54 < (nI k).toInt) = true := by
    rw [nI_toInt (by omega)]
    exact decide_eq_true (by omega)
  exact (o_tswd (t := 3455) (lt := lvL (nI (6 * t))) f_374_40 e tg_40_3415 rfl).trans ((o_iinc_n (w := nI (6 * t) + 6) (lv' := [(4, vi (nI (6 * t) + 6)), (0, (vR (some (0, 0)))), (1, (vR (some (100, 0)))), (2, (vR (some (186, 0)))), (3, (vR (some (486, 0))))]) f_374_3455 rfl (congrArg (HAdd.hAdd (nI (6 * t))) ci_6) rfl).trans (o_goto (t := 23) (lt := lvL (nI (6 * t) + 6)) f_374_3458 tg_3458_m3435 rfl))
theorem g_fault (h : Rl t I L P E c s) : LGo (d + 1) n t 4 I L P E c s := by
  refine ⟨up3 I 186 0 0 0, L, P, E, c, s, ?_, h.side (Kp.rfl'.up rfl) Kp.rfl' (Kc.rfl'.up rfl) Kc.rfl' (RRef.thr h.2.2.2.2.2.2.2.2.2.2.2.1)⟩
  have hf : I 100 0 3 = I 186 0 3 := h.2.2.2.2.2.2.2.2.2.2.1
  rw [← at6]
  simp only [k_L_law_40_4, k_X11_fault_0, Vk_v, Nat.reduceAdd, k_L_law_533, k_X12_fault_0, k_L_law_537, up3_k (show 3 ≠ 0 by decide), hf, decide_true, cond_true]
/-- of three, by a number: what is not told is -1 -/
def two3 (a b x : Int32) : Int32 := bif (!decide (x = 0)) then (bif (!decide (x = 1)) then -1 else b) else a
theorem c_count (x : Int32) : V PR d 193 0 [(0, vR (some (100, 0))), (1, vi x)] [] (mm n I L P E c s) = some (.inl (some (vi (two3 (I 100 0 10) (I 100 0 1) x))), mm n I L P E c s) := by
  rw [k_X11_count_0]
  unfold two3
  cases (!decide (x = 0)) <;> cases (!decide (x = 1)) <;> rfl
theorem c_countR (x : Int32) : V PR d 331 0 [(0, vR (some (186, 0))), (1, vi x)] [] (mm n I L P E c s) = some (.inl (some (vi (two3 (I 186 0 26) (I 186 0 1) x))), mm n (up3 I 186 0 0 0) L P E c s) := by
  rw [k_X12_count_0]
  unfold two3
  cases (!decide (x = 0)) <;> cases (!decide (x = 1)) <;> rfl
theorem g_count (h : Rl t I L P E c s) (hn : 6 * t + 6 ≤ n) (hN : n ≤ 3072) : LGo (d + 1) n t 54 I L P E c s := by
  refine ⟨up3 I 186 0 0 0, L, P, E, c, s, ?_, h.side (Kp.rfl'.up rfl) Kp.rfl' (Kc.rfl'.up rfl) Kc.rfl' (RRef.thr h.2.2.2.2.2.2.2.2.2.2.2.1)⟩
  have h1 : I 100 0 1 = I 186 0 1 := h.2.2.2.2.2.2.2.2.2.1.2.2.1
  have h2 : I 100 0 10 = I 186 0 26 := h.2.2.2.2.2.2.2.2.2.2.2.2.2.1.2.2.1
  obtain ⟨i1, i2, i3, i4, i5⟩ := sc_in hn hN
  rw [← at6]
  simp only [k_L_law_40_54, i1, cond_true, c_count, Vk_v, Nat.reduceAdd, k_L_law_3440, c_countR, k_L_law_3450, h1, h2, decide_true]
theorem c_status (x : Int32) : V PR d 192 0 [(0, vR (some (100, 0))), (1, vi x)] [] (mm n I L P E c s) = some (.inl (some (vi (two3 (I 100 0 17) (I 100 0 18) x))), mm n I L P E c s) := by
  rw [k_X11_status_0]
  unfold two3
  cases (!decide (x = 0)) <;> cases (!decide (x = 1)) <;> rfl
theorem c_statusR (x : Int32) : V PR (d + 1) 330 0 [(0, vR (some (186, 0))), (1, vi x)] [] (mm n I L P E c s) = some (.inl (some (vi (two3 (I 188 0 0) (I 188 0 1) x))), mm n (up3 I 186 0 0 0) L P E c s) := by
  simp only [k_X12_status_0, c_in, Vk_v, Nat.reduceAdd, k_X12_status_11, b2i_eq0]
  unfold two3
  by_cases h0 : x = 0
  · subst h0
    rfl
  · by_cases h1 : x = 1
    · subst h1
      rfl
    · have e : inR x 0 1 = false := by
        unfold inR
        by_cases h2 : x < 0
        · rw [decide_eq_true h2]; rfl
        · have h3 : 1 < x := by
            have a0 : ¬ x.toInt < 0 := fun q => h2 (Int32.lt_iff_toInt_lt.mpr q)
            have b0 : x.toInt ≠ 0 := fun q => h0 (Int32.toInt_inj.mp q)
            have b1 : x.toInt ≠ 1 := fun q => h1 (Int32.toInt_inj.mp q)
            exact Int32.lt_iff_toInt_lt.mpr (show (1 : Int) < x.toInt by omega)
          rw [decide_eq_true h3, decide_eq_false h2]; rfl
      rw [e, decide_eq_false h0, decide_eq_false h1]
      rfl
theorem g_status (h : Rl t I L P E c s) (hn : 6 * t + 6 ≤ n) (hN : n ≤ 3072) : LGo (d + 2) n t 53 I L P E c s := by
  refine ⟨up3 I 186 0 0 0, L, P, E, c, s, ?_, h.side (Kp.rfl'.up rfl) Kp.rfl' (Kc.rfl'.up rfl) Kc.rfl' (RRef.thr h.2.2.2.2.2.2.2.2.2.2.2.1)⟩
  have h1 : I 100 0 17 = I 188 0 0 := h.2.2.2.2.2.2.2.2.2.2.2.1.1
  have h2 : I 100 0 18 = I 188 0 1 := h.2.2.2.2.2.2.2.2.2.2.2.1.2
  obtain ⟨i1, i2, i3, i4, i5⟩ := sc_in hn hN
  rw [← at6]
  simp only [k_L_law_40_53, i1, cond_true, c_status, Vk_v, Nat.reduceAdd, k_L_law_3415, c_statusR, k_L_law_3425, h1, h2, decide_true]
end Steps
