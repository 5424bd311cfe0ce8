/-! WHAT IS SO, by the reference: its pile of truth values. -/
theorem mul2 (k : Nat) : (2 : Int32) * nI k = nI (2 * k) := pk_mul 2 k
theorem bit_b2i2 (m : Nat) : nI (m % 2) = b2i (decide (m % 2 = 1)) := by
  rcases (show m % 2 = 0 ∨ m % 2 = 1 by omega) with h | h <;> rw [h] <;> rfl
theorem b2i_not (b : Bool) : (1 : Int32) - b2i b = b2i (!b) := by cases b <;> decide +kernel
theorem b2i_and (a b : Bool) : b2i a &&& b2i b = b2i (a && b) := by cases a <;> cases b <;> decide +kernel
theorem b2i_or (a b : Bool) : b2i a ||| b2i b = b2i (a || b) := by cases a <;> cases b <;> decide +kernel
theorem b2i_x1 (b : Bool) : b2i b ^^^ 1 = b2i (!b) := by cases b <;> decide +kernel
theorem b2i_x0 (b : Bool) : b2i b ^^^ 0 = b2i b := by cases b <;> decide +kernel
theorem b2i_is1 (b : Bool) : (!decide (b2i b = 1)) = !b := by cases b <;> decide +kernel
/-- cells that hold a pile, the lowest first -/
def SaidR (f : Nat → Int32) : List Bool → Prop
  | [] => True
  | b :: st => f st.length = b2i b ∧ SaidR f st
theorem SaidR.up {f : Nat → Int32} {k : Nat} {x : Int32} : ∀ {st : List Bool}, SaidR f st → st.length ≤ k → SaidR (fun j => if j = k then x else f j) st
  | [], _, _ => trivial
  | b :: st, h, hk => ⟨by
      show (if st.length = k then x else f st.length) = b2i b
      rw [if_neg (by have : st.length + 1 ≤ k := hk; omega)]
      exact h.1, SaidR.up h.2 (by have : st.length + 1 ≤ k := hk; omega)⟩
/-- a step of the reference's codes, as it may stand -/
def opOk (wn : Nat) (how v : Int32) : Prop := (how = 0 ∧ ∃ a, v = nI a ∧ a < 4) ∨ how = 1 ∨ how = 2 ∨ how = 3 ∨ how = 4 ∨ (how = 5 ∧ ∃ w, v = nI w ∧ w < wn) ∨ how = 6
def CodeOk (wn : Nat) (f : Nat → Int32) (len : Nat) : Prop := (∀ j, j < len → opOk wn (f (2 * j)) (f (2 * j + 1))) ∧ (∀ j, 1 ≤ j → j ≤ len → 1 ≤ pileAt f j) ∧ pileAt f len = 1 ∧ 1 ≤ len ∧ len ≤ 150
theorem pile_len (I : FI) (x st : Nat) {wn len : Nat} {f : Nat → Int32} (h : CodeOk wn f len) : ∀ k, k ≤ len → ((pile I x st f k).length : Int) = pileAt f k
  | 0, _ => rfl
  | k + 1, hk => by
    have ih := pile_len I x st h k (by omega)
    have h1 := h.2.1 (k + 1) (by omega) hk
    have ho := h.1 k (by omega)
    show ((pstep I x st (f (2 * k)) (f (2 * k + 1)) (pile I x st f k)).length : Int) = pileAt f k + _
    have hp : pileAt f (k + 1) = pileAt f k + (if f (2 * k) = 0 then 1 else if f (2 * k) = 1 ∨ f (2 * k) = 5 ∨ f (2 * k) = 6 then 0 else -1) := rfl
    rw [hp] at h1
    unfold pstep
    generalize pile I x st f k = p at ih ⊢
    generalize f (2 * k) = how at ho h1 ⊢
    generalize f (2 * k + 1) = v at ho ⊢
    rcases ho with ⟨rfl, -⟩ | rfl | rfl | rfl | rfl | ⟨rfl, -⟩ | rfl
    · rw [if_pos rfl, if_pos rfl, List.length_cons]; omega
    · rw [if_neg (by decide +kernel), if_pos (Or.inl rfl)] at h1
      rw [if_neg (by decide +kernel), if_pos rfl, if_neg (by decide +kernel), if_pos (Or.inl rfl), List.length_cons, List.length_tail]; omega
    · rw [if_neg (by decide +kernel), if_neg (by decide +kernel)] at h1
      rw [if_neg (by decide +kernel), if_neg (by decide +kernel), if_neg (by decide +kernel), if_neg (by decide +kernel), if_pos rfl, if_neg (by decide +kernel), if_neg (by decide +kernel), List.length_cons, List.length_tail, List.length_tail]; omega
    · rw [if_neg (by decide +kernel), if_neg (by decide +kernel)] at h1
      rw [if_neg (by decide +kernel), if_neg (by decide +kernel), if_neg (by decide +kernel), if_neg (by decide +kernel), if_neg (by decide +kernel), if_pos rfl, if_neg (by decide +kernel), if_neg (by decide +kernel), List.length_cons, List.length_tail, List.length_tail]; omega
    · rw [if_neg (by decide +kernel), if_neg (by decide +kernel)] at h1
      rw [if_neg (by decide +kernel), if_neg (by decide +kernel), if_neg (by decide +kernel), if_neg (by decide +kernel), if_neg (by decide +kernel), if_neg (by decide +kernel), if_neg (by decide +kernel), if_neg (by decide +kernel), List.length_cons, List.length_tail, List.length_tail]; omega
    · rw [if_neg (by decide +kernel), if_pos (Or.inr (Or.inl rfl))] at h1
      rw [if_neg (by decide +kernel), if_neg (by decide +kernel), if_pos rfl, if_neg (by decide +kernel), if_pos (Or.inr (Or.inl rfl)), List.length_cons, List.length_tail]; omega
    · rw [if_neg (by decide +kernel), if_pos (Or.inr (Or.inr rfl))] at h1
      rw [if_neg (by decide +kernel), if_neg (by decide +kernel), if_neg (by decide +kernel), if_pos rfl, if_neg (by decide +kernel), if_pos (Or.inr (Or.inr rfl)), List.length_cons, List.length_tail]; omega
theorem pileAt_le (f : Nat → Int32) : ∀ k : Nat, pileAt f k ≤ k
  | 0 => Int.le_refl _
  | k + 1 => by
    have := pileAt_le f k
    show pileAt f k + _ ≤ _
    split
    · omega
    · split <;> omega
/-- memories alike but for the reference's pile -/
def Off (I J : FI) : Prop := ∀ a r j, a ≠ 247 → J a r j = I a r j
theorem Off.kp {I J : FI} (h : Off I J) {c : Nat} : Kp c I J := fun a r j _ hk => h a r j fun e => by subst e; cases hk
theorem Off.up {I J : FI} (h : Off I J) (k : Nat) (x : Int32) : Off I (up3 J 247 0 k x) := fun a r j ha => by rw [up3_a ha]; exact h a r j ha
theorem said_up (J : FI) (k : Nat) (x : Int32) : (fun i => (up3 J 247 0 k x) 247 0 i) = fun i => if i = k then x else J 247 0 i := by
  funext i
  rw [up3_at]
section IsSo
variable {d n t : Nat} {I : FI} {L : FL} {P : FR} {E : FE} {c s : Nat}
set_option maxHeartbeats 2000000 in
theorem so_loop (hT : RTold I) (hw : RWell I) (hv : RVein I) (hc : 487 ≤ c) {q x st len : Nat} (hq : q < 7) (hx : x < 365) (hst : st < 64) (hlen : I 229 (q + 1) 0 = nI len) (hco : CodeOk (zW I) (fun j => I 237 (q + 1) j) len) : ∀ m k (J : FI), k + m = len → Off I J → SaidR (fun i => J 247 0 i) (pile I x st (fun j => I 237 (q + 1) j) k) → ∃ J', Off I J' ∧ V PR (d + 3) 255 20 [(0, vR (some (186, 0))), (1, vi (nI q)), (2, vi (nI x)), (3, vi (nI st)), (4, vi (nI (pile I x st (fun j => I 237 (q + 1) j) k).length)), (5, vi (nI k))] [] (mm n J L P E c s) = some (.inl (some (vi (b2i ((pile I x st (fun j => I 237 (q + 1) j) len).headD false)))), mm n J' L P E c s)
  | 0, k, J, hk, hJ, hS => by
    have hkl : k = len := by omega
    subst hkl
    have hl := pile_len I x st hco k (Nat.le_refl _)
    rw [hco.2.2.1] at hl
    refine ⟨J, hJ, ?_⟩
    have iq : inb (nI q) 7 = true := inb_nI (by omega) (by decide)
    have aq : arrOk (mm n J L P E c s) 229 (q + 1) 0 0 = true := by rw [aro_229, blt_t (show q < 7 by omega)]; decide +kernel
    rw [k_X12_isSo_20]
    simp only [iq, nI_clamp (show q < 2 ^ 31 by omega), aq, cond_true, tn_0, hJ 229 _ _ (by decide), hlen]
    rw [decide_eq_true (nI_le (Nat.le_refl _) (by have := hco.2.2.2.2; omega)), cond_true]
    generalize pile I x st (fun j => I 237 (q + 1) j) k = p at hl hS ⊢
    match p, hl, hS with
    | [b], _, hS =>
      have e : J 247 0 0 = b2i b := hS.1
      rw [e, b2i_is1]
      cases b <;> rfl
  | m + 1, k, J, hk, hJ, hS => by
    have hk2 : k < len := by omega
    have h150 := hco.2.2.2.2
    have ho := hco.1 k hk2
    have hl0 := pile_len I x st hco k (by omega)
    have hl1 := pile_len I x st hco (k + 1) (by omega)
    have hle := pileAt_le (fun j => I 237 (q + 1) j) k
    have hp1 := hco.2.1 (k + 1) (by omega) (by omega)
    have ih := so_loop hT hw hv hc hq hx hst hlen hco m (k + 1)
    have hps : pile I x st (fun j => I 237 (q + 1) j) (k + 1) = pstep I x st (I 237 (q + 1) (2 * k)) (I 237 (q + 1) (2 * k + 1)) (pile I x st (fun j => I 237 (q + 1) j) k) := rfl
    rw [hps] at ih hl1
    have iq : inb (nI q) 7 = true := inb_nI (by omega) (by decide)
    have aq : arrOk (mm n J L P E c s) 229 (q + 1) 0 0 = true := by rw [aro_229, blt_t (show q < 7 by omega)]; decide +kernel
    have ac : ∀ i, i < 320 → arrOk (mm n J L P E c s) 237 (q + 1) 0 (nI i) = true := fun i hi => by rw [aro_237, blt_t (show q < 7 by omega), inb_nI hi (by decide)]; rfl
    rw [k_X12_isSo_20]
    simp only [iq, nI_clamp (show q < 2 ^ 31 by omega), aq, cond_true, tn_0, hJ 229 _ _ (by decide), hlen]
    rw [decide_eq_false (nI_ge hk2 (by omega)), cond_false]
    simp only [mul2, nI_1, ac (2 * k) (by omega), ac (2 * k + 1) (by omega), cond_true, nI_clamp (show 2 * k < 2 ^ 31 by omega), nI_clamp (show 2 * k + 1 < 2 ^ 31 by omega), hJ 237 _ _ (by decide)]
    replace ho : opOk (zW I) (I 237 (q + 1) (2 * k)) (I 237 (q + 1) (2 * k + 1)) := ho
    replace hp1 : 1 ≤ pileAt (fun j => I 237 (q + 1) j) k + (if I 237 (q + 1) (2 * k) = 0 then 1 else if I 237 (q + 1) (2 * k) = 1 ∨ I 237 (q + 1) (2 * k) = 5 ∨ I 237 (q + 1) (2 * k) = 6 then 0 else -1) := hp1
    rw [← hl0] at hle hp1
    clear hps hl1 hl0
    generalize pile I x st (fun j => I 237 (q + 1) j) k = p at hS ih hp1 hle ⊢
    generalize I 237 (q + 1) (2 * k) = how at ho ih hp1 ⊢
    generalize I 237 (q + 1) (2 * k + 1) = v at ho ih hp1 ⊢
    rcases ho with ⟨rfl, a, rfl, ha⟩ | rfl | rfl | rfl | rfl | ⟨rfl, w, rfl, hwn⟩ | rfl
    · rw [show (!decide ((0 : Int32) = 0)) = false by decide +kernel, cond_false, inb_nI (show p.length < 160 by omega) (by decide), cond_true, nI_clamp (by omega), bit_of st hst a (by omega), bit_b2i2]
      unfold pstep at ih
      rw [if_pos rfl, nI_clamp (show a < 2 ^ 31 by omega)] at ih
      exact ih _ (by omega) (hJ.up _ _) (by
        refine ⟨?_, ?_⟩
        · show (up3 J 247 0 p.length _) 247 0 p.length = _
          rw [up3_i]
        · rw [said_up]
          exact hS.up (Nat.le_refl _))
    · unfold pstep at ih
      rw [if_neg (by decide +kernel), if_pos rfl] at ih
      rw [if_neg (by decide +kernel), if_pos (Or.inl rfl)] at hp1
      match p, hS, ih, hle, hp1 with
      | [], _, _, _, hp1 => exact absurd hp1 (by simp)
      | b :: r, hS, ih, hle, hp1 =>
        rw [List.length_cons] at hle
        have e : J 247 0 r.length = b2i b := hS.1
        rw [show (!decide ((1 : Int32) = 0)) = true by decide +kernel, show (!decide ((1 : Int32) = 1)) = false by decide +kernel, cond_true, cond_false, List.length_cons, nI_pred, inb_nI (show r.length < 160 by omega) (by decide), cond_true, cond_true, nI_clamp (by omega), e, b2i_not]
        exact ih _ (by omega) (hJ.up _ _) (by
          refine ⟨?_, ?_⟩
          · show (up3 J 247 0 r.length _) 247 0 r.length = _
            rw [up3_i]; rfl
          · rw [said_up]
            exact hS.2.up (Nat.le_refl _))
    · unfold pstep at ih
      rw [if_neg (by decide +kernel), if_neg (by decide +kernel), if_neg (by decide +kernel), if_neg (by decide +kernel), if_pos rfl] at ih
      rw [if_neg (by decide +kernel), if_neg (by decide +kernel)] at hp1
      match p, hS, ih, hle, hp1 with
      | [], _, _, _, hp1 => exact absurd hp1 (by simp)
      | [_], _, _, _, hp1 => exact absurd hp1 (by simp)
      | b :: a :: r, hS, ih, hle, hp1 =>
        rw [List.length_cons, List.length_cons] at hle
        have e : J 247 0 (r.length + 1) = b2i b := hS.1
        have e2 : J 247 0 r.length = b2i a := hS.2.1
        rw [show (!decide ((2 : Int32) = 0)) = true by decide +kernel, show (!decide ((2 : Int32) = 1)) = true by decide +kernel, show decide ((2 : Int32) ≤ 4) = true by decide +kernel, show (!decide ((2 : Int32) = 2)) = false by decide +kernel, cond_true, cond_true, cond_true, cond_false, List.length_cons, List.length_cons, pk_m1, nI_pred, inb_nI (show r.length < 160 by omega) (by decide), inb_nI (show r.length + 1 < 160 by omega) (by decide), cond_true, cond_true, cond_true, nI_clamp (show r.length < 2 ^ 31 by omega), nI_clamp (show r.length + 1 < 2 ^ 31 by omega), e, e2, b2i_and]
        exact ih _ (by omega) (hJ.up _ _) (by
          refine ⟨?_, ?_⟩
          · show (up3 J 247 0 r.length _) 247 0 r.length = _
            rw [up3_i]; rfl
          · rw [said_up]
            exact hS.2.2.up (Nat.le_refl _))
    · unfold pstep at ih
      rw [if_neg (by decide +kernel), if_neg (by decide +kernel), if_neg (by decide +kernel), if_neg (by decide +kernel), if_neg (by decide +kernel), if_pos rfl] at ih
      rw [if_neg (by decide +kernel), if_neg (by decide +kernel)] at hp1
      match p, hS, ih, hle, hp1 with
      | [], _, _, _, hp1 => exact absurd hp1 (by simp)
      | [_], _, _, _, hp1 => exact absurd hp1 (by simp)
      | b :: a :: r, hS, ih, hle, hp1 =>
        rw [List.length_cons, List.length_cons] at hle
        have e : J 247 0 (r.length + 1) = b2i b := hS.1
        have e2 : J 247 0 r.length = b2i a := hS.2.1
        rw [show (!decide ((3 : Int32) = 0)) = true by decide +kernel, show (!decide ((3 : Int32) = 1)) = true by decide +kernel, show decide ((3 : Int32) ≤ 4) = true by decide +kernel, show (!decide ((3 : Int32) = 2)) = true by decide +kernel, show (!decide ((3 : Int32) = 3)) = false by decide +kernel, cond_true, cond_true, cond_true, cond_true, cond_false, List.length_cons, List.length_cons, pk_m1, nI_pred, inb_nI (show r.length < 160 by omega) (by decide), inb_nI (show r.length + 1 < 160 by omega) (by decide), cond_true, cond_true, cond_true, nI_clamp (show r.length < 2 ^ 31 by omega), nI_clamp (show r.length + 1 < 2 ^ 31 by omega), e, e2, b2i_or]
        exact ih _ (by omega) (hJ.up _ _) (by
          refine ⟨?_, ?_⟩
          · show (up3 J 247 0 r.length _) 247 0 r.length = _
            rw [up3_i]; rfl
          · rw [said_up]
            exact hS.2.2.up (Nat.le_refl _))
    · unfold pstep at ih
      rw [if_neg (by decide +kernel), if_neg (by decide +kernel), if_neg (by decide +kernel), if_neg (by decide +kernel), if_neg (by decide +kernel), if_neg (by decide +kernel)] at ih
      rw [if_neg (by decide +kernel), if_neg (by decide +kernel)] at hp1
      match p, hS, ih, hle, hp1 with
      | [], _, _, _, hp1 => exact absurd hp1 (by simp)
      | [_], _, _, _, hp1 => exact absurd hp1 (by simp)
      | b :: a :: r, hS, ih, hle, hp1 =>
        rw [List.length_cons, List.length_cons] at hle
        have e : J 247 0 (r.length + 1) = b2i b := hS.1
        have e2 : J 247 0 r.length = b2i a := hS.2.1
        rw [show (!decide ((4 : Int32) = 0)) = true by decide +kernel, show (!decide ((4 : Int32) = 1)) = true by decide +kernel, show decide ((4 : Int32) ≤ 4) = true by decide +kernel, show (!decide ((4 : Int32) = 2)) = true by decide +kernel, show (!decide ((4 : Int32) = 3)) = true by decide +kernel, cond_true, cond_true, cond_true, cond_true, cond_true, List.length_cons, List.length_cons, pk_m1, nI_pred, inb_nI (show r.length < 160 by omega) (by decide), inb_nI (show r.length + 1 < 160 by omega) (by decide), cond_true, cond_true, cond_true, nI_clamp (show r.length < 2 ^ 31 by omega), nI_clamp (show r.length + 1 < 2 ^ 31 by omega), e, e2, b2i_not, b2i_or]
        exact ih _ (by omega) (hJ.up _ _) (by
          refine ⟨?_, ?_⟩
          · show (up3 J 247 0 r.length _) 247 0 r.length = _
            rw [up3_i]; rfl
          · rw [said_up]
            exact hS.2.2.up (Nat.le_refl _))
    · unfold pstep at ih
      rw [if_neg (by decide +kernel), if_neg (by decide +kernel), if_pos rfl, nI_clamp (show w < 2 ^ 31 by have := hT.2.2.1.2; omega)] at ih
      rw [if_neg (by decide +kernel), if_pos (Or.inr (Or.inl rfl))] at hp1
      match p, hS, ih, hle, hp1 with
      | [], _, _, _, hp1 => exact absurd hp1 (by simp)
      | b :: r, hS, ih, hle, hp1 =>
        rw [List.length_cons] at hle
        have e : J 247 0 r.length = b2i b := hS.1
        have k1 : Kp c I J := hJ.kp
        have h6 := hT.2.2.1.2
        have eW : zW J = zW I := (kz k1 hc).2.2.1
        have eV : zV J = zV I := (kz k1 hc).2.2.2.1
        have hT2 := hT.keep k1 hc
        have hw2 := hw.keep k1 hc
        have hv2 := hv.keep k1 hc
        have hsil : silB J = silB I := silB_k k1 hc
        rw [show (!decide ((5 : Int32) = 0)) = true by decide +kernel, show (!decide ((5 : Int32) = 1)) = true by decide +kernel, show decide ((5 : Int32) ≤ 4) = false by decide +kernel, show (!decide ((5 : Int32) = 5)) = false by decide +kernel, cond_true, cond_true, cond_false, cond_false, List.length_cons, nI_pred, c_isSilent (show w < 6 by omega), Vk_v]
        simp only [Nat.reduceAdd, k_X12_isSo_141, b2i_ne0, hsil, nI_pred, inb_nI (show r.length < 160 by omega) (show 160 ≤ 2 ^ 31 by decide), cond_true, nI_clamp (show r.length < 2 ^ 31 by omega), e, c_liesOn hT2 hw2 hv2 (show w < zW J by omega) hx hst, Vk_v, k_X12_isSo_161, b2i_eq0, nI_1, lieB_k k1 hc, eV, b2i_x0, b2i_x1]
        have fin1 : ∀ y : Bool, y = (!silB I w (nI x) && ((b :: r).headD false != lieB I w x st (zV I))) → ∃ J', Off I J' ∧ V PR (d + 3) 255 20 [(0, vR (some (186, 0))), (1, vi (nI q)), (2, vi (nI x)), (3, vi (nI st)), (4, vi (nI (r.length + 1))), (5, vi (nI (k + 1)))] [] (mm n (up3 J 247 0 r.length (b2i y)) L P E c s) = some (.inl (some (vi (b2i ((pile I x st (fun j => I 237 (q + 1) j) len).headD false)))), mm n J' L P E c s) := by
          intro y hy
          subst hy
          exact ih _ (by omega) (hJ.up _ _) (by
            refine ⟨?_, ?_⟩
            · show (up3 J 247 0 r.length _) 247 0 r.length = _
              rw [up3_i]
            · rw [said_up]
              exact hS.2.up (Nat.le_refl _))
        cases h1 : silB I w (nI x) with
        | true => exact fin1 false (by rw [h1]; rfl)
        | false =>
          cases h2 : lieB I w x st (zV I) with
          | true => exact fin1 (!b) (by rw [h1, h2]; cases b <;> rfl)
          | false => exact fin1 b (by rw [h1, h2]; cases b <;> rfl)
    · unfold pstep at ih
      rw [if_neg (by decide +kernel), if_neg (by decide +kernel), if_neg (by decide +kernel), if_pos rfl] at ih
      rw [if_neg (by decide +kernel), if_pos (Or.inr (Or.inr rfl))] at hp1
      match p, hS, ih, hle, hp1 with
      | [], _, _, _, hp1 => exact absurd hp1 (by simp)
      | b :: r, hS, ih, hle, hp1 =>
        rw [List.length_cons] at hle
        rw [show (!decide ((6 : Int32) = 0)) = true by decide +kernel, show (!decide ((6 : Int32) = 1)) = true by decide +kernel, show decide ((6 : Int32) ≤ 4) = false by decide +kernel, show (!decide ((6 : Int32) = 5)) = true by decide +kernel, cond_true, cond_true, cond_false, cond_true, List.length_cons, nI_pred, inb_nI (show r.length < 160 by omega) (by decide), cond_true, nI_clamp (by omega)]
        exact ih _ (by omega) (hJ.up _ _) (by
          refine ⟨?_, ?_⟩
          · show (up3 J 247 0 r.length _) 247 0 r.length = _
            rw [up3_i]; rfl
          · rw [said_up]
            exact hS.2.up (Nat.le_refl _))
end IsSo
