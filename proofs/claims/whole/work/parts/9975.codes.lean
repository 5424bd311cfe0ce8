/-! PROMISES 39, 40: marks, code. -/
section Codes
variable {d n t : Nat} {I J M : FI} {L K N : FL} {P : FR} {E : FE} {c s : Nat}
/-- words taken of those below one: how many, which -/
def cwF (lost : Nat) : Nat → Nat × (Nat → Nat)
  | 0 => (0, fun _ => 0)
  | v + 1 => bif alB (fun k => decide (lost < pcK (v ^^^ (cwF lost v).2 k))) 0 (cwF lost v).1 then ((cwF lost v).1 + 1, fun k => if k = (cwF lost v).1 then v else (cwF lost v).2 k) else cwF lost v
def apB (lost v : Nat) (f : Nat → Nat) (k : Nat) : Bool := decide (lost < pcK (v ^^^ f k))
theorem cw_step (lost v : Nat) : cwF lost (v + 1) = bif alB (apB lost v (cwF lost v).2) 0 (cwF lost v).1 then ((cwF lost v).1 + 1, fun k => if k = (cwF lost v).1 then v else (cwF lost v).2 k) else cwF lost v := rfl
theorem cw_le (lost : Nat) : ∀ v, (cwF lost v).1 ≤ v
  | 0 => Nat.le_refl _
  | v + 1 => by
    have ih := cw_le lost v
    rw [cw_step]
    cases alB (apB lost v (cwF lost v).2) 0 (cwF lost v).1
    · exact Nat.le_succ_of_le ih
    · exact Nat.succ_le_succ ih
theorem cw_lt (lost : Nat) : ∀ v k, k < (cwF lost v).1 → (cwF lost v).2 k < v
  | 0, k, h => absurd h (Nat.not_lt_zero k)
  | v + 1, k, h => by
    have ih := cw_lt lost v k
    rw [cw_step] at h ⊢
    cases hq : alB (apB lost v (cwF lost v).2) 0 (cwF lost v).1 with
    | false => rw [hq] at h; exact Nat.lt_succ_of_lt (ih h)
    | true =>
      rw [hq] at h
      have h2 : k < (cwF lost v).1 + 1 := h
      show (if k = (cwF lost v).1 then v else (cwF lost v).2 k) < v + 1
      by_cases e : k = (cwF lost v).1
      · rw [if_pos e]; omega
      · rw [if_neg e]
        have := ih (by omega)
        omega
theorem cw_mono (lost : Nat) {v : Nat} : ∀ r, (cwF lost v).1 ≤ (cwF lost (v + r)).1 ∧ (∀ k, k < (cwF lost v).1 → (cwF lost (v + r)).2 k = (cwF lost v).2 k) ∧ ∀ k, (cwF lost v).1 ≤ k → k < (cwF lost (v + r)).1 → v ≤ (cwF lost (v + r)).2 k
  | 0 => ⟨Nat.le_refl _, fun _ _ => rfl, fun k h1 h2 => by rw [Nat.add_zero] at h2; omega⟩
  | r + 1 => by
    obtain ⟨h1, h2, h3⟩ := cw_mono lost (v := v) r
    rw [show v + (r + 1) = (v + r) + 1 by omega, cw_step]
    cases alB (apB lost (v + r) (cwF lost (v + r)).2) 0 (cwF lost (v + r)).1 with
    | false => exact ⟨h1, h2, h3⟩
    | true =>
      refine ⟨Nat.le_succ_of_le h1, fun k hk => ?_, fun k hk hk2 => ?_⟩
      · show (if k = (cwF lost (v + r)).1 then v + r else (cwF lost (v + r)).2 k) = (cwF lost v).2 k
        rw [if_neg (by omega)]
        exact h2 k hk
      · show v ≤ (if k = (cwF lost (v + r)).1 then v + r else (cwF lost (v + r)).2 k)
        have hk3 : k < (cwF lost (v + r)).1 + 1 := hk2
        by_cases e : k = (cwF lost (v + r)).1
        · rw [if_pos e]; omega
        · rw [if_neg e]; exact h3 k hk (by omega)
theorem xor_nI {a b : Nat} (ha : a < 256) (hb : b < 256) : nI a ^^^ nI b = nI (a ^^^ b) ∧ a ^^^ b < 256 := by
  have h : a ^^^ b < 2 ^ 8 := Nat.xor_lt_two_pow (by omega) (by omega)
  refine ⟨?_, by omega⟩
  apply Int32.toBitVec_inj.mp
  apply BitVec.eq_of_toNat_eq
  rw [Int32.toBitVec_xor, BitVec.toNat_xor, pk_tn (by omega), pk_tn (by omega), pk_tn (by omega)]
theorem nI_ltp {a b : Nat} (ha : a < 2 ^ 31) (hb : b ≤ 64) : decide (nI a < nI b) = decide (a < b) := nI_ltd ha (by omega)
theorem nI_lep {a b : Nat} (ha : a < 2 ^ 31) (hb : b ≤ 64) : decide (nI b ≤ nI a) = decide (b ≤ a) := nI_led (by omega) ha
theorem apart_C {lost v len : Nat} {f : Nat → Nat} (hl : lost < 4) (hv : v < 256) (hlen : len ≤ v) (hf : ∀ k, k < len → f k < 256 ∧ I 185 0 k = nI (f k)) : ∀ r k, k + r = len → V PR (d + 1) 179 3 [(0, vR (some (100, 0))), (1, vi (nI v)), (2, vi (nI len)), (3, vi (nI lost)), (4, vi (nI k))] [] (mm n I L P E c s) = some (.inl (some (vi (b2i (alB (apB lost v f) k r)))), mm n I L P E c s)
  | 0, k, h => by
    rw [k_X11_apartFromAll_3, nI_led (by omega) (by omega), decide_eq_true (by omega), cond_true]
    rfl
  | r + 1, k, h => by
    obtain ⟨f1, f2⟩ := hf k (by omega)
    obtain ⟨x1, x2⟩ := xor_nI hv f1
    have A := apart_C hl hv hlen hf r (k + 1) (by omega)
    have hS : alB (apB lost v f) k (r + 1) = (decide (lost < pcK (v ^^^ f k)) && alB (apB lost v f) (k + 1) r) := rfl
    rw [hS, k_X11_apartFromAll_3, nI_led (by omega) (by omega), decide_eq_false (by omega), cond_false, show decide ((256 : Int32) ≤ nI k) = false from (nI_led (a := 256) (by decide) (by omega)).trans (decide_eq_false (by omega)), cond_false, inb_nI (show k < 256 by omega) (by decide), cond_true, nI_clamp (by omega), f2, x1, c_bitI (by omega), Vk_v, k_X11_apartFromAll_29, nI_ltp (by omega) (pcK_le _), nI_1]
    cases decide (lost < pcK (v ^^^ f k)) with
    | true => exact A
    | false => rfl
/-- a word of the class's longest code -/
def cwW (lost : Nat) (i : Int32) : Int32 := bif decide (i < 0) then -1 else (if i.toNatClampNeg < (cwF lost 256).1 then nI ((cwF lost 256).2 i.toNatClampNeg) else -1)
/-- memories alike but for the class's words -/
def Ocw (I J : FI) : Prop := ∀ a r j, a ≠ 185 → J a r j = I a r j
theorem word_C {lost j : Nat} (hl : lost < 4) (hj : j < 2 ^ 31) : ∀ r v (J : FI), v + r = 256 → Ocw I J → (∀ k, k < (cwF lost v).1 → J 185 0 k = nI ((cwF lost v).2 k)) → (cwF lost v).1 ≤ j + 1 → ∃ J' : FI, Ocw I J' ∧ V PR (d + 2) 178 5 [(0, vR (some (100, 0))), (1, vi (nI lost)), (2, vi (nI j)), (3, vi (nI (cwF lost v).1)), (4, vi (nI v))] [] (mm n J L P E c s) = some (.inl (some (vi (cwW lost (nI j)))), mm n J' L P E c s)
  | 0, v, J, h, hJ, hm, hle => by
    have hv : v = 256 := by omega
    subst hv
    refine ⟨J, hJ, ?_⟩
    have h1 := cw_le lost 256
    rw [k_X11_codeWord_5, show decide ((256 : Int32) ≤ nI 256) = true by decide +kernel, cond_true, decide_eq_false (nI_pos hj), cond_false, nI_led (by omega) hj]
    unfold cwW
    rw [decide_eq_false (nI_pos hj), cond_false, nI_clamp hj]
    by_cases q : j < (cwF lost 256).1
    · rw [decide_eq_false (show ¬ (cwF lost 256).1 ≤ j by omega), cond_false, inb_nI (show j < 256 by omega) (by decide), cond_true, if_pos q, hm j q]
    · rw [decide_eq_true (show (cwF lost 256).1 ≤ j by omega), cond_true, if_neg q]
  | r + 1, v, J, h, hJ, hm, hle => by
    have h1 := cw_le lost v
    have q0 : decide ((256 : Int32) ≤ nI v) = false := (nI_led (a := 256) (by decide) (by omega)).trans (decide_eq_false (by omega))
    have q1 : decide ((256 : Int32) ≤ nI (cwF lost v).1) = false := (nI_led (a := 256) (by decide) (by omega)).trans (decide_eq_false (by omega))
    by_cases q : j < (cwF lost v).1
    · refine ⟨J, hJ, ?_⟩
      obtain ⟨a1, a2, -⟩ := cw_mono lost (v := v) (r + 1)
      rw [h] at a1 a2
      rw [k_X11_codeWord_5, q0, cond_false, nI_ltd hj (by omega), decide_eq_true q, cond_true, decide_eq_false (nI_pos hj), cond_false, nI_led (by omega) hj, decide_eq_false (show ¬ (cwF lost v).1 ≤ j by omega), cond_false, inb_nI (show j < 256 by omega) (by decide), cond_true, nI_clamp hj, hm j q]
      unfold cwW
      rw [decide_eq_false (nI_pos hj), cond_false, nI_clamp hj, if_pos (by omega), a2 j q]
    · have AP := apart_C (d := d) (n := n) (I := J) (L := L) (P := P) (E := E) (c := c) (s := s) (lost := lost) (v := v) (len := (cwF lost v).1) (f := (cwF lost v).2) hl (by omega) h1 (fun k hk => ⟨by have := cw_lt lost v k hk; omega, hm k hk⟩) (cwF lost v).1 0 (Nat.zero_add _)
      have st := cw_step lost v
      have base : V PR (d + 2) 178 5 [(0, vR (some (100, 0))), (1, vi (nI lost)), (2, vi (nI j)), (3, vi (nI (cwF lost v).1)), (4, vi (nI v))] [] (mm n J L P E c s) = V PR (d + 2) 178 33 [(0, vR (some (100, 0))), (1, vi (nI lost)), (2, vi (nI j)), (3, vi (nI (cwF lost v).1)), (4, vi (nI v))] [vi (b2i (alB (apB lost v (cwF lost v).2) 0 (cwF lost v).1))] (mm n J L P E c s) := by
        rw [k_X11_codeWord_5, q0, cond_false, nI_ltd hj (by omega), decide_eq_false q, cond_false, q1, cond_false, k_X11_apartFromAll_0]
        refine (congrArg (Vk (d + 1) 178 30 [] _) AP).trans ?_
        rw [Vk_v]
      rw [base, k_X11_codeWord_33, b2i_eq0, inb_nI (show (cwF lost v).1 < 256 by omega) (by decide), cond_true, nI_clamp (show (cwF lost v).1 < 2 ^ 31 by omega), nI_1, nI_1]
      cases hq : alB (apB lost v (cwF lost v).2) 0 (cwF lost v).1 with
      | false =>
        rw [hq, cond_false] at st
        have ih := word_C hl hj r (v + 1) J (by omega) hJ (by rw [st]; exact hm) (by rw [st]; exact hle)
        rw [st] at ih
        exact ih
      | true =>
        rw [hq, cond_true] at st
        have ih := word_C hl hj r (v + 1) (up3 J 185 0 (cwF lost v).1 (nI v)) (by omega) (fun a r j ha => (up3_a ha).trans (hJ a r j ha)) (by
          rw [st]
          intro k hk
          have hk2 : k < (cwF lost v).1 + 1 := hk
          show (up3 J 185 0 (cwF lost v).1 (nI v)) 185 0 k = nI (if k = (cwF lost v).1 then v else (cwF lost v).2 k)
          by_cases e : k = (cwF lost v).1
          · rw [e, up3_i, if_pos rfl]
          · rw [up3_k e, if_neg e]; exact hm k (by omega)) (by rw [st]; show (cwF lost v).1 + 1 ≤ j + 1; omega)
        rw [st] at ih
        exact ih
theorem c_codeWord {lost : Nat} (hl : lost < 4) (i : Int32) : ∃ J' : FI, Ocw I J' ∧ V PR (d + 2) 178 0 [(0, vR (some (100, 0))), (1, vi (nI lost)), (2, vi i)] [] (mm n I L P E c s) = some (.inl (some (vi (cwW lost i))), mm n J' L P E c s) := by
  by_cases hi : i < 0
  · refine ⟨I, fun _ _ _ _ => rfl, ?_⟩
    unfold cwW
    rw [k_X11_codeWord_0, k_X11_codeWord_5, show decide ((256 : Int32) ≤ 0) = false by decide +kernel, cond_false, decide_eq_true hi, cond_true, cond_true]
    rfl
  · obtain ⟨j, hj, rfl⟩ := nI_of hi
    rw [k_X11_codeWord_0]
    exact word_C hl hj 256 0 I rfl (fun _ _ _ _ => rfl) (fun k hk => absurd hk (Nat.not_lt_zero k)) (Nat.zero_le _)
theorem Ocw.cw (h : Ocw I J) (h0 : Cw t I L I L) : Cw t I L J L := h0.upX (fun a r j q => h a r j (ne_of_cx (fun _ => rfl) (by decide) q)) Cx.rfl' (fun a r j h1 h2 => h a r j (by omega)) (fun _ _ _ _ _ => rfl)
/-- memories alike but for the reference's words -/
def Orw (I J : FI) : Prop := ∀ a r j, a ≠ 484 → J a r j = I a r j
theorem Orw.rx (h : Orw I J) : Rx I J := fun a r j q => h a r j (by
  rintro rfl
  rcases q with q | q | q | q
  · cases q
  · omega
  · omega
  · omega)
theorem lay_in {lost v len : Nat} {f : Nat → Nat} {x1 : Int32} (hl : lost < 4) (hv : v < 256) (hlen : len ≤ v) (hf : ∀ k, k < len → f k < 256 ∧ I 484 0 k = nI (f k)) : ∀ r k b, k + r = len → V PR (d + 1) 308 19 [(0, vR (some (186, 0))), (1, vi x1), (2, vi (nI lost)), (3, vi (nI len)), (4, vi (nI v)), (5, vi (b2i b)), (6, vi (nI k))] [] (mm n I L P E c s) = V PR (d + 1) 308 19 [(0, vR (some (186, 0))), (1, vi x1), (2, vi (nI lost)), (3, vi (nI len)), (4, vi (nI v)), (5, vi (b2i (b && alB (apB lost v f) k r))), (6, vi (nI len))] [] (mm n I L P E c s)
  | 0, k, b, h => by
    rw [show k = len by omega]
    unfold alB
    rw [Bool.and_true]
  | r + 1, k, b, h => by
    obtain ⟨f1, f2⟩ := hf k (by omega)
    obtain ⟨x1', x2⟩ := xor_nI hv f1
    have A := fun b => lay_in (x1 := x1) hl hv hlen hf r (k + 1) b (by omega)
    have hS : alB (apB lost v f) k (r + 1) = (decide (lost < pcK (v ^^^ f k)) && alB (apB lost v f) (k + 1) r) := rfl
    rw [hS, k_X12_laysCode_19 (x6 := nI k), nI_led (by omega) (by omega), decide_eq_false (by omega), cond_false, b2i_eq0, inb_nI (show k < 256 by omega) (by decide), cond_true, nI_clamp (by omega), f2, x1', nI_1]
    cases b with
    | false =>
      have A0 := A false
      rw [Bool.false_and] at A0 ⊢
      exact A0
    | true =>
      rw [Bool.not_true, cond_false, c_onesI (by omega), Vk_v, k_X12_laysCode_44, nI_lep (by omega) (pcK_le _), nI_1, Bool.true_and]
      by_cases q : lost < pcK (v ^^^ f k)
      · have A1 := A true
        rw [Bool.true_and] at A1
        rw [decide_eq_true q, decide_eq_false (Nat.not_le_of_lt q), Bool.true_and]
        exact A1
      · have A0 := A false
        rw [Bool.false_and] at A0
        rw [decide_eq_false q, decide_eq_true (Nat.le_of_not_lt q), Bool.false_and]
        exact A0
theorem lay_out {lost m : Nat} (hl : lost < 4) (hm : m ≤ 8) : ∀ r v (J : FI), v + r = 2 ^ m → Orw I J → (∀ k, k < (cwF lost v).1 → J 484 0 k = nI ((cwF lost v).2 k)) → ∃ J' : FI, Orw I J' ∧ V PR (d + 1) 308 5 [(0, vR (some (186, 0))), (1, vi (nI m)), (2, vi (nI lost)), (3, vi (nI (cwF lost v).1)), (4, vi (nI v))] [] (mm n J L P E c s) = some (.inl (some (vi (nI (cwF lost (2 ^ m)).1))), mm n J' L P E c s) ∧ ∀ k, k < (cwF lost (2 ^ m)).1 → J' 484 0 k = nI ((cwF lost (2 ^ m)).2 k)
  | 0, v, J, h, hJ, hf => by
    have h8 : 2 ^ m ≤ 2 ^ 8 := Nat.pow_le_pow_right (by decide) hm
    have hv : v = 2 ^ m := by omega
    subst hv
    refine ⟨J, hJ, ?_, hf⟩
    rw [k_X12_laysCode_5, shl31 _ (by omega), nI_led (by omega) (by omega), decide_eq_true (Nat.le_refl _), cond_true]
  | r + 1, v, J, h, hJ, hf => by
    have h8 : 2 ^ m ≤ 2 ^ 8 := Nat.pow_le_pow_right (by decide) hm
    have h1 := cw_le lost v
    have st := cw_step lost v
    have LI := lay_in (d := d) (n := n) (I := J) (L := L) (P := P) (E := E) (c := c) (s := s) (lost := lost) (v := v) (len := (cwF lost v).1) (f := (cwF lost v).2) (x1 := nI m) hl (by omega) h1 (fun k hk => ⟨by have := cw_lt lost v k hk; omega, hf k hk⟩) (cwF lost v).1 0 true (Nat.zero_add _)
    rw [Bool.true_and] at LI
    have base : V PR (d + 1) 308 5 [(0, vR (some (186, 0))), (1, vi (nI m)), (2, vi (nI lost)), (3, vi (nI (cwF lost v).1)), (4, vi (nI v))] [] (mm n J L P E c s) = V PR (d + 1) 308 19 [(0, vR (some (186, 0))), (1, vi (nI m)), (2, vi (nI lost)), (3, vi (nI (cwF lost v).1)), (4, vi (nI v)), (5, vi (b2i (alB (apB lost v (cwF lost v).2) 0 (cwF lost v).1))), (6, vi (nI (cwF lost v).1))] [] (mm n J L P E c s) := by
      rw [k_X12_laysCode_5, shl31 _ (by omega), nI_led (by omega) (by omega), decide_eq_false (by omega), cond_false]
      exact LI
    rw [base, k_X12_laysCode_19 (x6 := nI (cwF lost v).1), nI_led (by omega) (by omega), decide_eq_true (Nat.le_refl _), cond_true, b2i_ne0, inb_nI (show (cwF lost v).1 < 256 by omega) (by decide), cond_true, nI_clamp (show (cwF lost v).1 < 2 ^ 31 by omega), nI_1, nI_1]
    cases hq : alB (apB lost v (cwF lost v).2) 0 (cwF lost v).1 with
    | false =>
      rw [hq, cond_false] at st
      have ih := lay_out hl hm r (v + 1) J (by omega) hJ (by rw [st]; exact hf)
      rw [st] at ih
      exact ih
    | true =>
      rw [hq, cond_true] at st
      have ih := lay_out hl hm r (v + 1) (up3 J 484 0 (cwF lost v).1 (nI v)) (by omega) (fun a r j ha => (up3_a ha).trans (hJ a r j ha)) (by
        rw [st]
        intro k hk
        have hk2 : k < (cwF lost v).1 + 1 := hk
        show (up3 J 484 0 (cwF lost v).1 (nI v)) 484 0 k = nI (if k = (cwF lost v).1 then v else (cwF lost v).2 k)
        by_cases e : k = (cwF lost v).1
        · rw [e, up3_i, if_pos rfl]
        · rw [up3_k e, if_neg e]; exact hf k (by omega))
      rw [st] at ih
      exact ih
theorem c_lays {lost m : Nat} (hl : lost < 4) (hm : m ≤ 8) : ∃ J' : FI, Orw I J' ∧ V PR (d + 1) 308 0 [(0, vR (some (186, 0))), (1, vi (nI m)), (2, vi (nI lost))] [] (mm n I L P E c s) = some (.inl (some (vi (nI (cwF lost (2 ^ m)).1))), mm n J' L P E c s) ∧ ∀ k, k < (cwF lost (2 ^ m)).1 → J' 484 0 k = nI ((cwF lost (2 ^ m)).2 k) := by
  rw [k_X12_laysCode_0]
  exact lay_out hl hm (2 ^ m) 0 I (Nat.zero_add _) (fun _ _ _ _ => rfl) (fun k hk => absurd hk (Nat.not_lt_zero k))
/-- a word of a code of so many marks, by the longest code's words -/
theorem cw_pre {lost m j : Nat} (hm : m ≤ 8) : j < (cwF lost (2 ^ m)).1 ↔ (j < (cwF lost 256).1 ∧ (cwF lost 256).2 j < 2 ^ m) := by
  have h8 : 2 ^ m ≤ 2 ^ 8 := Nat.pow_le_pow_right (by decide) hm
  obtain ⟨a1, a2, a3⟩ := cw_mono lost (v := 2 ^ m) (256 - 2 ^ m)
  rw [show 2 ^ m + (256 - 2 ^ m) = 256 by omega] at a1 a2 a3
  constructor
  · intro h
    rw [a2 j h]
    exact ⟨by omega, cw_lt lost _ j h⟩
  · intro ⟨h1, h2⟩
    by_cases q : j < (cwF lost (2 ^ m)).1
    · exact q
    · have := a3 j (by omega) h1
      omega
theorem cw_same {lost m j : Nat} (hm : m ≤ 8) (h : j < (cwF lost (2 ^ m)).1) : (cwF lost (2 ^ m)).2 j = (cwF lost 256).2 j := by
  have h8 : 2 ^ m ≤ 2 ^ 8 := Nat.pow_le_pow_right (by decide) hm
  obtain ⟨a1, a2, a3⟩ := cw_mono lost (v := 2 ^ m) (256 - 2 ^ m)
  rw [show 2 ^ m + (256 - 2 ^ m) = 256 by omega] at a1 a2 a3
  exact (a2 j h).symm
def cdV (lost m : Nat) (i : Int32) : Int32 := bif inR i 0 (nI (cwF lost (2 ^ m)).1 - 1) then nI ((cwF lost (2 ^ m)).2 i.toNatClampNeg) else -1
theorem g_code (h : Rl t I L P E c s) (hn : 6 * t + 6 ≤ n) (hN : n ≤ 3072) : LGo (d + 30) n t 38 I L P E c s := by
  refine en_38 h hn hN fun m lost hm1 hm _ hl' em el h1 h2 => ?_
  obtain ⟨⟨hE, hc, -, -⟩, hT, hl, -⟩ := id h
  have h8 : 2 ^ m ≤ 2 ^ 8 := Nat.pow_le_pow_right (by decide) (by omega)
  have hle := cw_le lost (2 ^ m)
  have hle2 := cw_le lost 256
  obtain ⟨J, j1, r1⟩ := c_codeWord (d := d + 25) (n := n) (I := I) (L := L) (P := P) (E := E) (c := c) (s := s) (lost := lost) (by omega) (sc I t 3)
  have w1 : Cw t I L J L := j1.cw h.cw0
  have A : V PR (d + 28) 177 0 [(0, (vR (some (100, 0)))), (1, (vi (sc I t 1))), (2, (vi (sc I t 2))), (3, (vi (sc I t 3)))] [] (mm n I L P E c s) = some (.inl (some (vi (cdV lost m (sc I t 3)))), mm n J L P E c s) := by
    refine (cp_38 (d := d + 26) hT hl h1 h2).trans ?_
    rw [em, el, k_X11_code_38, r1, Vk_v, k_X11_code_44, shl31 _ (by omega)]
    unfold cwW cdV
    by_cases hi : sc I t 3 < 0
    · have e : inR (sc I t 3) 0 (nI (cwF lost (2 ^ m)).1 - 1) = false := by unfold inR; rw [decide_eq_true hi]; rfl
      rw [decide_eq_true hi, cond_true, e, cond_false]
      cases decide (nI (2 ^ m) ≤ -1) <;> rfl
    · obtain ⟨j, hj, ej⟩ := nI_of hi
      rw [ej, decide_eq_false (nI_pos hj), cond_false, nI_clamp hj]
      have ew : inR (nI j) 0 (nI (cwF lost (2 ^ m)).1 - 1) = decide (j < (cwF lost (2 ^ m)).1) := by
        rw [← inR_wn (by omega), decide_eq_false (nI_pos hj), nI_led (by omega) hj]
        by_cases q : j < (cwF lost (2 ^ m)).1
        · rw [decide_eq_true q, decide_eq_false (by omega)]; rfl
        · rw [decide_eq_false q, decide_eq_true (by omega)]; rfl
      rw [ew]
      by_cases q1 : j < (cwF lost 256).1
      · have hlt := cw_lt lost 256 j q1
        rw [if_pos q1, nI_led (by omega) (by omega)]
        by_cases q2 : (cwF lost 256).2 j < 2 ^ m
        · have q3 := (cw_pre (lost := lost) (j := j) (show m ≤ 8 by omega)).mpr ⟨q1, q2⟩
          rw [decide_eq_false (show ¬ 2 ^ m ≤ (cwF lost 256).2 j by omega), decide_eq_true q3, cw_same (by omega) q3]
          rfl
        · have q3 : ¬ j < (cwF lost (2 ^ m)).1 := fun q => q2 ((cw_pre (show m ≤ 8 by omega)).mp q).2
          rw [decide_eq_true (show 2 ^ m ≤ (cwF lost 256).2 j by omega), decide_eq_false q3]
          rfl
      · have q3 : ¬ j < (cwF lost (2 ^ m)).1 := fun q => q1 ((cw_pre (show m ≤ 8 by omega)).mp q).1
        rw [if_neg q1, decide_eq_false q3]
        cases decide (nI (2 ^ m) ≤ -1) <;> rfl
  obtain ⟨lv, hlv⟩ : ∃ lv, lv = (cdV lost m (sc I t 3)).toInt64 := ⟨_, rfl⟩
  obtain ⟨m1, m2, m3, m4, m5, k, m7, m8, -⟩ := mid_R h w1 lv
  obtain ⟨M, g1, g2, g3⟩ := c_lays (d := d + 27) (n := n) (I := up3 J 186 0 0 0) (L := up3 L 486 0 0 lv) (P := P) (E := E) (c := c) (s := s) (lost := lost) (m := m) (by omega) (by omega)
  have B : V PR (d + 29) 310 0 [(0, (vR (some (186, 0)))), (1, (vi (sc I t 1))), (2, (vi (sc I t 2))), (3, (vi (sc I t 3)))] [] (mm n J (up3 L 486 0 0 lv) P E c s) = some (.inl (some (vi (cdV lost m (sc I t 3)))), mm n M (up3 L 486 0 0 lv) P E c s) := by
    refine (rp_38 (d := d + 26) m8 h1 h2).trans ?_
    rw [em, el, k_X12_code_35, d0t, cond_true, g2, Vk_v, k_X12_code_48, c_in, Vk_v, k_X12_code_53, b2i_eq0]
    unfold cdV
    cases hin : inR (sc I t 3) 0 (nI (cwF lost (2 ^ m)).1 - 1) with
    | false => rfl
    | true =>
      obtain ⟨j, hj, ej⟩ := inR_nat (by omega) hin
      rw [ej, inb_nI (show j < 256 by omega) (by decide), nI_clamp (by omega), g3 j hj]
      rfl
  rw [hlv] at B
  exact gb_38 (d := d + 28) _ h hn hN A B w1 (Rx.thr.tr g1.rx) Rx.rfl' (h.rstm.rx w1.1 (Rx.thr.tr g1.rx) ((g1 186 0 40 (by decide)).trans (up3_k (by decide))) (fun r j => (g1 377 r j (by decide)).trans (up3_a (by decide))) (fun r j => (g1 414 r j (by decide)).trans (up3_a (by decide)))) ((g1 186 0 0 (by decide)).trans (up3_i _ _ _ _ _))
/-- the fewest marks -/
def mkV (lost w : Nat) : Nat → Nat → Int32
  | _, 0 => -1
  | m, r + 1 => bif decide (w ≤ (cwF lost (2 ^ m)).1) then nI m else mkV lost w (m + 1) r
theorem marks_C {lost w : Nat} (hw1 : 1 ≤ w) (hw : w < 257) : ∀ r m, m + r = 9 → V PR d 176 51 [(3, vi (cwW lost (nI (w - 1)))), (4, vi (nI m))] [] (mm n I L P E c s) = some (.inl (some (vi (mkV lost w m r))), mm n I L P E c s)
  | 0, m, h => by
    rw [k_X11_marks_51, show decide ((8 : Int32) < nI m) = true from (nI_ltd (a := 8) (by decide) (by omega)).trans (decide_eq_true (by omega)), cond_true]
    rfl
  | r + 1, m, h => by
    have A := marks_C (lost := lost) hw1 hw r (m + 1) (by omega)
    have h8 : 2 ^ m ≤ 2 ^ 8 := Nat.pow_le_pow_right (by decide) (by omega)
    have hle := cw_le lost 256
    have hS : mkV lost w m (r + 1) = bif decide (w ≤ (cwF lost (2 ^ m)).1) then nI m else mkV lost w (m + 1) r := rfl
    have pre := cw_pre (lost := lost) (m := m) (j := w - 1) (by omega)
    rw [hS, k_X11_marks_51, show decide ((8 : Int32) < nI m) = false from (nI_ltd (a := 8) (by decide) (by omega)).trans (decide_eq_false (by omega)), cond_false, shl31 _ (by omega), nI_1]
    have ev : cwW lost (nI (w - 1)) = if w - 1 < (cwF lost 256).1 then nI ((cwF lost 256).2 (w - 1)) else -1 := by
      unfold cwW
      rw [decide_eq_false (nI_pos (by omega)), cond_false, nI_clamp (by omega)]
    rw [ev] at A ⊢
    by_cases q1 : w - 1 < (cwF lost 256).1
    · have hlt := cw_lt lost 256 (w - 1) q1
      rw [if_pos q1] at A ⊢
      rw [decide_eq_false (m1_ne (by omega)), cond_false, nI_led (by omega) (by omega)]
      by_cases q2 : (cwF lost 256).2 (w - 1) < 2 ^ m
      · have q3 := pre.mpr ⟨q1, q2⟩
        rw [decide_eq_false (show ¬ 2 ^ m ≤ (cwF lost 256).2 (w - 1) by omega), decide_eq_true (show w ≤ (cwF lost (2 ^ m)).1 by omega)]
        rfl
      · have q3 : ¬ w ≤ (cwF lost (2 ^ m)).1 := fun q => q2 (pre.mp (by omega)).2
        rw [decide_eq_true (show 2 ^ m ≤ (cwF lost 256).2 (w - 1) by omega), decide_eq_false q3]
        exact A
    · have q3 : ¬ w ≤ (cwF lost (2 ^ m)).1 := fun q => q1 (pre.mp (by omega)).1
      rw [if_neg q1] at A ⊢
      rw [decide_eq_false q3, decide_eq_true (rfl : (-1 : Int32) = -1), cond_true]
      exact A
theorem marks_R {lost w : Nat} (hl : lost < 4) (hw : w < 257) : ∀ r m (J : FI), m + r = 9 → Orw I J → ∃ J' : FI, Orw I J' ∧ V PR (d + 2) 309 43 [(0, vR (some (186, 0))), (1, vi (nI w)), (2, vi (nI lost)), (3, vi (nI m))] [] (mm n J L P E c s) = some (.inl (some (vi (mkV lost w m r))), mm n J' L P E c s)
  | 0, m, J, h, hJ => by
    refine ⟨J, hJ, ?_⟩
    rw [k_X12_marks_43, show decide ((9 : Int32) ≤ nI m) = true from (nI_led (a := 9) (by decide) (by omega)).trans (decide_eq_true (by omega)), cond_true]
    rfl
  | r + 1, m, J, h, hJ => by
    have h8 : 2 ^ m ≤ 2 ^ 8 := Nat.pow_le_pow_right (by decide) (by omega)
    have hle := cw_le lost (2 ^ m)
    obtain ⟨J1, j1, s1, -⟩ := c_lays (d := d) (n := n) (I := J) (L := L) (P := P) (E := E) (c := c) (s := s) (lost := lost) (m := m) hl (by omega)
    have hJ1 : Orw I J1 := fun a r j ha => (j1 a r j ha).trans (hJ a r j ha)
    obtain ⟨J2, j2, s2⟩ := marks_R hl hw r (m + 1) J1 (by omega) hJ1
    have hS : mkV lost w m (r + 1) = bif decide (w ≤ (cwF lost (2 ^ m)).1) then nI m else mkV lost w (m + 1) r := rfl
    rw [hS, k_X12_marks_43, show decide ((9 : Int32) ≤ nI m) = false from (nI_led (a := 9) (by decide) (by omega)).trans (decide_eq_false (by omega)), cond_false, s1, Vk_v, k_X12_marks_55, nI_ltd (by omega) (by omega), nI_1]
    by_cases q : w ≤ (cwF lost (2 ^ m)).1
    · rw [decide_eq_true q, decide_eq_false (show ¬ (cwF lost (2 ^ m)).1 < w by omega)]
      exact ⟨J1, hJ1, rfl⟩
    · rw [decide_eq_false q, decide_eq_true (show (cwF lost (2 ^ m)).1 < w by omega)]
      exact ⟨J2, j2, s2⟩
theorem g_marks (h : Rl t I L P E c s) (hn : 6 * t + 6 ≤ n) (hN : n ≤ 3072) : LGo (d + 30) n t 37 I L P E c s := by
  refine en_37 h hn hN fun w lost hw1 hw _ hl' ew el h1 h2 => ?_
  obtain ⟨⟨hE, hc, -, -⟩, hT, hl, -⟩ := id h
  obtain ⟨J, j1, r1⟩ := c_codeWord (d := d + 25) (n := n) (I := I) (L := L) (P := P) (E := E) (c := c) (s := s) (lost := lost) (by omega) (nI (w - 1))
  have w1 : Cw t I L J L := j1.cw h.cw0
  have A : V PR (d + 28) 176 0 [(0, (vR (some (100, 0)))), (1, (vi (sc I t 1))), (2, (vi (sc I t 2)))] [] (mm n I L P E c s) = some (.inl (some (vi (mkV lost w 1 8))), mm n J L P E c s) := by
    refine (cp_37 (d := d + 26) hT hl h1 h2).trans ?_
    rw [ew, el, k_X11_marks_39, show nI w - (1 : Int32) = nI (w - 1) from pk_sub (b := 1) hw1, r1, Vk_v, k_X11_marks_47]
    exact marks_C hw1 hw 8 1 rfl
  obtain ⟨lv, hlv⟩ : ∃ lv, lv = (mkV lost w 1 8).toInt64 := ⟨_, rfl⟩
  obtain ⟨m1, m2, m3, m4, m5, k, m7, m8, -⟩ := mid_R h w1 lv
  obtain ⟨M, g1, g2⟩ := marks_R (d := d + 27) (n := n) (I := up3 J 186 0 0 0) (L := up3 L 486 0 0 lv) (P := P) (E := E) (c := c) (s := s) (lost := lost) (w := w) (by omega) (by omega) 8 1 _ rfl (fun _ _ _ _ => rfl)
  have B : V PR (d + 29) 309 0 [(0, (vR (some (186, 0)))), (1, (vi (sc I t 1))), (2, (vi (sc I t 2)))] [] (mm n J (up3 L 486 0 0 lv) P E c s) = some (.inl (some (vi (mkV lost w 1 8))), mm n M (up3 L 486 0 0 lv) P E c s) := by
    refine (rp_37 (d := d + 26) m8 h1 h2).trans ?_
    rw [ew, el, k_X12_marks_36, d0t, cond_true]
    exact g2
  rw [hlv] at B
  exact gb_37 (d := d + 28) _ h hn hN A B w1 (Rx.thr.tr g1.rx) Rx.rfl' (h.rstm.rx w1.1 (Rx.thr.tr g1.rx) ((g1 186 0 40 (by decide)).trans (up3_k (by decide))) (fun r j => (g1 377 r j (by decide)).trans (up3_a (by decide))) (fun r j => (g1 414 r j (by decide)).trans (up3_a (by decide)))) ((g1 186 0 0 (by decide)).trans (up3_i _ _ _ _ _))
end Codes
