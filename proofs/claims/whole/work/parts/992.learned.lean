/-! PROMISE 47: learned. -/
section Learned
variable {d n t : Nat} {I J : FI} {L K : FL} {P : FR} {E : FE} {c s : Nat}
/-- how many are so, from one on -/
def cntV (f : Nat → Bool) : Nat → Nat → Nat → Nat
  | _, m, 0 => m
  | e, m, r + 1 => cntV f (e + 1) (bif f e then m + 1 else m) r
theorem cntV_le (f : Nat → Bool) : ∀ r e m, cntV f e m r ≤ m + r
  | 0, e, m => Nat.le_refl _
  | r + 1, e, m => by
    have h1 := cntV_le f r (e + 1) (m + 1)
    have h2 := cntV_le f r (e + 1) m
    unfold cntV
    cases f e with
    | true => simp only [cond_true]; omega
    | false => simp only [cond_false]; omega
/-- what a well masters of the questions that have a text -/
def masN (I : FI) (w : Nat) : Nat := cntV (fun q => toldB I q && knB I w q) 0 0 6
theorem mast_C (H : Cls t I L P E c) {w : Nat} (hk : w < zW I) : ∀ r e m, e + r = 6 → V PR (d + 2) 17 4 [(0, vR (some (135, 0))), (1, vi (nI w)), (2, vi (nI m)), (3, vi (nI e))] [] (mm n I L P E c s) = some (.inl (some (vi (nI (cntV (fun q => toldB I q && knB I w q) e m r)))), mm n I L P E c s)
  | 0, e, m, he => by
    rw [k_X0_mastered_4, show decide ((6 : Int32) ≤ nI e) = true from decide_eq_true (nI_le (a := 6) (by omega) (by omega)), cond_true]
    rfl
  | r + 1, e, m, he => by
    have H2 := H
    obtain ⟨hT, hl, hw, hv, hb, hP, hc, ht⟩ := H2
    rw [k_X0_mastered_4, show decide ((6 : Int32) ≤ nI e) = false from decide_eq_false (nI_ge (b := 6) (by omega) (by omega)), cond_false, c_has hP (by omega), Vk_v, k_X0_mastered_19, b2i_eq0, nI_1, add0_32]
    unfold cntV
    cases e2 : toldB I e with
    | false => exact mast_C H hk r (e + 1) m (by omega)
    | true =>
      rw [Bool.not_true, cond_false, c_masters H hk (q := e) (by omega) Dof.rfl', Vk_v, k_X0_mastered_28, b2i_eq0, nI_1, nI_1, add0_32]
      cases e3 : knB I w e with
      | false => exact mast_C H hk r (e + 1) m (by omega)
      | true => exact mast_C H hk r (e + 1) (m + 1) (by omega)
/-- the well that masters most, not silent -/
def lrnV (f : Nat → Bool) (g : Nat → Nat) : Nat → Int32 → Int32 → Nat → Int32
  | _, b, _, 0 => b
  | e, b, m, r + 1 => bif !f e && decide (m < nI (g e)) then lrnV f g (e + 1) (nI e) (nI (g e)) r else lrnV f g (e + 1) b m r
theorem le_lt32 (a b : Int32) : decide (a ≤ b) = !decide (b < a) := by
  by_cases h : a ≤ b
  · have : ¬ b < a := by rw [Int32.lt_iff_toInt_lt]; rw [Int32.le_iff_toInt_le] at h; omega
    rw [decide_eq_true h, decide_eq_false this]; rfl
  · have : b < a := by rw [Int32.lt_iff_toInt_lt]; rw [Int32.le_iff_toInt_le] at h; omega
    rw [decide_eq_false h, decide_eq_true this]; rfl
theorem m1_le {k : Nat} (h : k < 2 ^ 31) : decide ((-1 : Int32) ≤ nI k) = true := decide_eq_true (by
  rw [Int32.le_iff_toInt_le, nI_toInt h, show (-1 : Int32).toInt = -1 from by decide +kernel]
  omega)
theorem learned_C (H : Cls t I L P E c) {x : Nat} (hx : x < 365) : ∀ r e b m, e + r = zW I → decide ((-1 : Int32) ≤ m) = true → V PR (d + 4) 187 12 [(0, vR (some (100, 0))), (1, vi (nI x)), (2, vi b), (3, vi m), (4, vi (nI e))] [] (mm n I L P E c s) = some (.inl (some (vi (lrnV (fun w => silB I w (nI x)) (masN I) e b m r))), mm n I L P E c s)
  | 0, e, b, m, he, hm => by
    have H2 := H
    obtain ⟨hT, hl, hw, hv, hb, hP, hc, ht⟩ := H2
    have e9 : I 103 0 2 = nI (zW I) := hl.2.2.1.trans hT.2.2.1.1
    have := hT.2.2.1.2
    rw [k_X11_learned_12, e9, nI_led (by omega) (by omega), decide_eq_true (by omega), cond_true]
    rfl
  | r + 1, e, b, m, he, hm => by
    have H2 := H
    obtain ⟨hT, hl, hw, hv, hb, hP, hc, ht⟩ := H2
    have e9 : I 103 0 2 = nI (zW I) := hl.2.2.1.trans hT.2.2.1.1
    have h6 := hT.2.2.1.2
    rw [k_X11_learned_12, e9, nI_led (by omega) (by omega), decide_eq_false (by omega), cond_false, c_hushed (by omega), Vk_v, hus_sil hw hl (by omega) hx hT, k_X11_learned_34, b2i_eq0, hm, nI_1]
    unfold lrnV
    cases e2 : silB I e (nI x) with
    | true => exact learned_C H hx r (e + 1) b m (by omega) hm
    | false =>
      have MC : V PR (d + 3) 17 4 [(0, vR (some (135, 0))), (1, vi (nI e)), (2, vi (0 : Int32)), (3, vi (0 : Int32))] [] (mm n I L P E c s) = some (.inl (some (vi (nI (masN I e)))), mm n I L P E c s) := mast_C (d := d + 1) H (show e < zW I by omega) 6 0 0 rfl
      rw [Bool.not_false, cond_true, k_X0_mastered_0, MC, Vk_v, k_X11_learned_50, nI_1, le_lt32]
      have e4 : masN I e ≤ 0 + 6 := cntV_le _ 6 0 0
      rw [Bool.true_and]
      cases e3 : decide (m < nI (masN I e)) with
      | true => exact learned_C H hx r (e + 1) (nI e) (nI (masN I e)) (by omega) (m1_le (by omega))
      | false => exact learned_C H hx r (e + 1) b m (by omega) hm
theorem mast_R {w x : Nat} {b m : Int32} (h6 : w < 6) : ∀ r e k, e + r = 6 → V PR (d + 6) 321 52 [(0, vR (some (186, 0))), (1, vi (nI x)), (2, vi b), (3, vi m), (4, vi (nI w)), (5, vi (nI k)), (6, vi (nI e))] [] (mm n I L P E c s) = V PR (d + 6) 321 52 [(0, vR (some (186, 0))), (1, vi (nI x)), (2, vi b), (3, vi m), (4, vi (nI w)), (5, vi (nI (cntV (fun q => toldB I q && knB I w q) e k r))), (6, vi (nI 6))] [] (mm n I L P E c s)
  | 0, e, k, he => by rw [show e = 6 by omega]; rfl
  | r + 1, e, k, he => by
    rw [k_X12_learned_52 (x6 := nI e), show decide ((6 : Int32) ≤ nI e) = false from decide_eq_false (nI_ge (b := 6) (by omega) (by omega)), cond_false, c_isTold (by omega), Vk_v, k_X12_learned_67, b2i_eq0, nI_1, add0_32]
    have A := mast_R (w := w) (x := x) (b := b) (m := m) h6 r (e + 1) k (by omega)
    have B := mast_R (w := w) (x := x) (b := b) (m := m) h6 r (e + 1) (k + 1) (by omega)
    unfold cntV
    cases e2 : toldB I e with
    | false => exact A
    | true =>
      rw [Bool.not_true, cond_false, c_isKnownTo h6 (show e < 7 by omega), Vk_v, k_X12_learned_78, b2i_eq0, nI_1, nI_1, add0_32]
      cases e3 : knB I w e with
      | false => exact A
      | true => exact B
theorem learned_R (hT : RTold I) {x : Nat} (hx : x < 365) : ∀ r e b m, e + r = zW I → V PR (d + 6) 321 35 [(0, vR (some (186, 0))), (1, vi (nI x)), (2, vi b), (3, vi m), (4, vi (nI e))] [] (mm n I L P E c s) = some (.inl (some (vi (lrnV (fun w => silB I w (nI x)) (masN I) e b m r))), mm n I L P E c s)
  | 0, e, b, m, he => by
    have := hT.2.2.1.2
    rw [k_X12_learned_35, hT.2.2.1.1, nI_led (by omega) (by omega), decide_eq_true (by omega), cond_true]
    rfl
  | r + 1, e, b, m, he => by
    have h6 := hT.2.2.1.2
    rw [k_X12_learned_35, hT.2.2.1.1, nI_led (by omega) (by omega), decide_eq_false (by omega), cond_false, show (0 : Int32) = nI 0 from rfl, mast_R (show e < 6 by omega) 6 0 0 rfl, k_X12_learned_52, show decide ((6 : Int32) ≤ nI 6) = true by decide +kernel, cond_true, c_isSilent (by omega), Vk_v, k_X12_learned_102, nI_1]
    have e5 : cntV (fun q => toldB I q && knB I e q) 0 0 6 = masN I e := rfl
    rw [e5]
    have A := learned_R hT hx r (e + 1) b m (by omega)
    have B := learned_R hT hx r (e + 1) (nI e) (nI (masN I e)) (by omega)
    unfold lrnV
    cases e2 : silB I e (nI x) with
    | true => exact A
    | false =>
      cases e3 : decide (m < nI (masN I e)) with
      | true => exact B
      | false => exact A
theorem g_learned (h : Rl t I L P E c s) (hn : 6 * t + 6 ≤ n) (hN : n ≤ 3072) (ht : t ≤ 600) : LGo (d + 30) n t 47 I L P E c s := by
  refine en_47 h hn hN fun x hx ex h1 => ?_
  have H := h.cls ht
  obtain ⟨hT, hl, hw, hv, hb, hP, hc, -⟩ := id H
  refine go_47 (d := d + 28) (lrnV (fun w => silB I w (nI x)) (masN I) 0 (-1) (-1) (zW I)) h hn hN ((cp_47 hT hl h1).trans ?_) ((rp_47 (I := I) hT h1).trans ?_)
  · rw [ex, k_X11_learned_5]
    exact learned_C H hx (zW I) 0 (-1) (-1) (by omega) (by decide +kernel)
  · rw [ex, k_X12_learned_23, d0t, cond_true]
    exact learned_R (I := up3 I 186 0 0 0) hT hx (zW I) 0 (-1) (-1) (Nat.zero_add _)
end Learned
