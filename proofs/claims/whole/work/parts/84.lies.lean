/-! WHO LIES, in all states at once and in one. -/
section Lies
variable {d n t : Nat} {I : FI} {L : FL} {P : FR} {E : FE} {c s : Nat}
/-- lies by the first so many veins, of all states -/
def lLv (I : FI) (w x v : Nat) : Int64 := mkL (fun s => lieB I w x s v) (2 ^ zB I)
theorem rem_nat {x D : Nat} (hx : x < 365) (h0 : 0 < D) (hD : D ≤ 30) : nI x - nI x / nI D * nI D = nI (x % D) := pk_rem (by omega) h0 (by omega)
theorem tb_lLv (hT : RTold I) (w x v s : Nat) : tb (lLv I w x v) s = (decide (s < 2 ^ zB I) && lieB I w x s v) := by
  have : 2 ^ zB I ≤ 2 ^ 6 := Nat.pow_le_pow_right (by decide) (zB_le hT)
  exact tb_mk _ _ _ (by omega)
theorem lLv_0 (hT : RTold I) (w x : Nat) : lLv I w x 0 = bif ownB I w x then allL (zB I) else 0 := tb_ext fun s _ => by
  rw [tb_lLv hT]
  show (decide (s < 2 ^ zB I) && ownB I w x) = _
  cases ownB I w x with
  | false => rw [cond_false, tb_0, Bool.and_false]
  | true => rw [cond_true, tb_all (zB_le hT), Bool.and_true]
theorem lLv_step (hT : RTold I) (hb : RBit L) (hv : RVein I) {w x v : Nat} (h : v < zV I) : lLv I w x (v + 1) = bif inR (nI x) (I 208 (v + 1) 2) (I 208 (v + 1) 3) then (lLv I w x v ^^^ (bif decide (nI w = I 208 (v + 1) 1) then L 1 0 (zN I + v) &&& allL (zB I) else 0)) ^^^ (bif decide (nI w = I 208 (v + 1) 0) then allL (zB I) &&& ((L 1 0 (zN I + v) &&& allL (zB I)) ^^^ (-1)) else 0) else lLv I w x v := tb_ext fun s hs => by
  have hB := zB_le hT
  obtain ⟨-, k, j, f, g, e1, e2, e3, e4, hk, hj, hkj, -, -⟩ := hv v h
  have h6 := hT.2.2.1.2
  have hNv : zN I + v < 6 := by unfold zB at hB; omega
  rw [tb_lLv hT]
  show (decide (s < 2 ^ zB I) && (lieB I w x s v != veinB I w x s v)) = _
  cases hin : inR (nI x) (I 208 (v + 1) 2) (I 208 (v + 1) 3) with
  | false =>
    have : veinB I w x s v = false := by unfold veinB; rw [hin]; rfl
    rw [this, cond_false, tb_lLv hT]
    cases lieB I w x s v <;> rfl
  | true =>
    have hvn : veinB I w x s v = decide (I 208 (v + 1) (s / 2 ^ (zN I + v) % 2) = nI w) := by unfold veinB; rw [hin]; rfl
    have hbit := hb (zN I + v) hNv s hs
    have hm := Nat.mod_lt (s / 2 ^ (zN I + v)) (show 0 < 2 by decide)
    rw [hvn, cond_true, tb_xor, tb_xor, tb_lLv hT, e1, e2]
    have hkw : decide (nI w = nI k) = decide (nI k = nI w) := by rw [decide_eq_decide]; exact ⟨Eq.symm, Eq.symm⟩
    have hjw : decide (nI w = nI j) = decide (nI j = nI w) := by rw [decide_eq_decide]; exact ⟨Eq.symm, Eq.symm⟩
    have hno : ¬ (nI k = nI w ∧ nI j = nI w) := fun q => hkj ((nI_eq (by omega) (by omega)).mp (q.1.trans q.2.symm))
    rw [hkw, hjw]
    have tO : tb (L 1 0 (zN I + v) &&& allL (zB I)) s = (decide (s / 2 ^ (zN I + v) % 2 = 1) && decide (s < 2 ^ zB I)) := by rw [tb_and, hbit, tb_all hB]
    rcases (show s / 2 ^ (zN I + v) % 2 = 0 ∨ s / 2 ^ (zN I + v) % 2 = 1 by omega) with hz | hz
    · rw [hz] at tO ⊢
      rw [e1]
      by_cases q1 : nI k = nI w
      · have q2 : ¬ nI j = nI w := fun q => hno ⟨q1, q⟩
        rw [decide_eq_true q1, decide_eq_false q2, cond_true, cond_false, tb_0, tb_and, not_x hs, tO, tb_all hB]
        cases decide (s < 2 ^ zB I) <;> cases lieB I w x s v <;> rfl
      · rw [decide_eq_false q1, cond_false, tb_0]
        cases decide (nI j = nI w) with
        | false => rw [cond_false, tb_0]; cases decide (s < 2 ^ zB I) <;> cases lieB I w x s v <;> rfl
        | true => rw [cond_true, tO]; cases decide (s < 2 ^ zB I) <;> cases lieB I w x s v <;> rfl
    · rw [hz] at tO ⊢
      rw [e2]
      by_cases q1 : nI j = nI w
      · have q2 : ¬ nI k = nI w := fun q => hno ⟨q, q1⟩
        rw [decide_eq_true q1, decide_eq_false q2, cond_true, cond_false, tb_0, tO]
        cases decide (s < 2 ^ zB I) <;> cases lieB I w x s v <;> rfl
      · rw [decide_eq_false q1, cond_false, tb_0]
        cases decide (nI k = nI w) with
        | false => rw [cond_false, tb_0]; cases decide (s < 2 ^ zB I) <;> cases lieB I w x s v <;> rfl
        | true => rw [cond_true, tb_and, not_x hs, tO, tb_all hB]; cases decide (s < 2 ^ zB I) <;> cases lieB I w x s v <;> rfl
theorem lie_C (hT : RTold I) (hl : RLand I L) (hv : RVein I) (hb : RBit L) {w x : Nat} (hw : w < 6) (hx : x < 365) : ∀ m v, v + m = zV I → V PR d 39 36 [(0, vR (some (103, 0))), (1, vi (nI w)), (2, vi (nI x)), (4, vL (lLv I w x v)), (6, vi (nI v))] [] (mm n I L P E c s) = some (.inl (some (vL (lL I w x))), mm n I L P E c s)
  | 0, v, h => by
    have h3 : I 103 0 3 = nI (zV I) := hl.2.2.2.1.trans hT.2.2.2.1.1
    have := hT.2.2.2.1.2
    rw [k_X2_lieStates_36, h3, decide_eq_true (nI_le (by omega) (by omega)), cond_true, show v = zV I by omega]
    rfl
  | m + 1, v, h => by
    have h3 : I 103 0 3 = nI (zV I) := hl.2.2.2.1.trans hT.2.2.2.1.1
    have h0 : I 103 0 0 = nI (zN I) := hl.1.trans hT.1.1
    have hV := hT.2.2.2.1.2
    have hN := hT.1.2.2
    have hB := zB_le hT
    have hNv : zN I + v < 6 := by unfold zB at hB; omega
    obtain ⟨⟨f1, f2, f3, f4⟩, k, j, f, g, e1, e2, e3, e4, hk, hj, hkj, hfg, hg⟩ := hv v (by omega)
    have step := lLv_step (w := w) (x := x) hT hb hv (show v < zV I by omega)
    have ih := lie_C hT hl hv hb hw hx m (v + 1) (by omega)
    rw [k_X2_lieStates_36, h3, decide_eq_false (nI_ge (by omega) (by omega)), cond_false, h0, nI_add, show decide ((6 : Int32) ≤ nI (zN I + v)) = false from decide_eq_false (nI_ge (b := 6) (by omega) (by omega)), cond_false]
    rw [inb_nI (show v < 2 by omega) (by decide), inb_nI (show zN I + v < 6 by omega) (by decide), nI_clamp (show v < 2 ^ 31 by omega), nI_clamp (show zN I + v < 2 ^ 31 by omega), nI_1, f1, f2, f3, f4, hl.2.2.2.2.2.1]
    simp only [cond_true]
    unfold inR at step
    cases q1 : decide (nI x < I 208 (v + 1) 2) with
    | true =>
      rw [q1] at step
      rw [cond_true]
      rw [show lLv I w x (v + 1) = lLv I w x v from step] at ih
      exact ih
    | false =>
      rw [q1] at step
      rw [cond_false]
      cases q2 : decide (I 208 (v + 1) 3 < nI x) with
      | true =>
        rw [q2] at step
        rw [cond_true]
        rw [show lLv I w x (v + 1) = lLv I w x v from step] at ih
        exact ih
      | false =>
        rw [q2] at step
        rw [cond_false]
        cases q3 : decide (nI w = I 208 (v + 1) 1) with
        | false =>
          rw [q3] at step
          cases q4 : decide (nI w = I 208 (v + 1) 0) with
          | false =>
            rw [q4] at step
            rw [show lLv I w x (v + 1) = (lLv I w x v ^^^ 0) ^^^ 0 from step] at ih
            exact ih
          | true =>
            rw [q4] at step
            rw [show lLv I w x (v + 1) = (lLv I w x v ^^^ 0) ^^^ (allL (zB I) &&& ((L 1 0 (zN I + v) &&& allL (zB I)) ^^^ (-1))) from step] at ih
            exact ih
        | true =>
          rw [q3] at step
          cases q4 : decide (nI w = I 208 (v + 1) 0) with
          | false =>
            rw [q4] at step
            rw [show lLv I w x (v + 1) = (lLv I w x v ^^^ (L 1 0 (zN I + v) &&& allL (zB I))) ^^^ 0 from step] at ih
            exact ih
          | true =>
            rw [q4] at step
            rw [show lLv I w x (v + 1) = (lLv I w x v ^^^ (L 1 0 (zN I + v) &&& allL (zB I))) ^^^ (allL (zB I) &&& ((L 1 0 (zN I + v) &&& allL (zB I)) ^^^ (-1))) from step] at ih
            exact ih
theorem c_lieStates (hT : RTold I) (hl : RLand I L) (hw : RWell I) (hv : RVein I) (hb : RBit L) {w x : Nat} (hk : w < zW I) (hx : x < 365) : V PR d 39 0 [(0, vR (some (103, 0))), (1, vi (nI w)), (2, vi (nI x))] [] (mm n I L P E c s) = some (.inl (some (vL (lL I w x))), mm n I L P E c s) := by
  have h6 : w < 6 := by have := hT.2.2.1.2; omega
  have K := lie_C (d := d) (n := n) (P := P) (E := E) (c := c) (s := s) hT hl hv hb h6 hx (zV I) 0 (by omega)
  obtain ⟨⟨g1, g2, g3, g4, g5, g6⟩, -, -, ⟨D, R, e1, e2, hD, hR⟩, -⟩ := hw w hk
  have ho : ownB I w x = (decide (0 < D) && decide (x % D = R)) := by
    unfold ownB
    rw [e1, e2, nI_clamp (by omega), nI_clamp (by omega)]
  rw [lLv_0 hT, ho] at K
  rw [k_X2_lieStates_0, inb_nI h6 (by decide), cond_true, nI_clamp (show w < 2 ^ 31 by omega), g3, g4, e1, e2]
  rcases Nat.eq_zero_or_pos D with rfl | h0
  · rw [show decide (nI 0 ≤ 0) = true by decide +kernel, cond_true]
    exact K
  · rw [decide_eq_false (nI_nle h0 (by omega)), decide_eq_false (nI_ne0 h0 (by omega)), cond_false, cond_false, rem_nat hx h0 hD]
    rw [decide_eq_true h0, Bool.true_and] at K
    have q : decide (nI (x % D) = nI R) = decide (x % D = R) := by
      have := Nat.mod_lt x h0
      rw [decide_eq_decide]
      exact nI_eq (by omega) (by omega)
    rw [q]
    cases hq : decide (x % D = R) with
    | true => rw [hq, cond_true] at K; rw [Bool.not_true, cond_false, hl.2.2.2.2.2.1]; exact K
    | false => rw [hq, cond_false] at K; rw [Bool.not_false, cond_true]; exact K
end Lies
