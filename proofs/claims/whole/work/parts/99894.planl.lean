/-! PLAN, 3: the class's search, all of it. -/
section PlanL
variable {a d n t : Nat} {I J M : FI} {L K N : FL} {P : FR} {E : FE} {c s z : Nat}
theorem z64 {x : Int64} : x = 0 ↔ ∀ i, i < 64 → tb x i = false := ⟨fun h i _ => by rw [h, tb_0], fun h => tb_ext fun i hi => by rw [h i hi, tb_0]⟩
theorem st_iff {l g : Int64} : stB l g = true ↔ (∀ i, i < 64 → tb l i = true → tb g i = false) ∨ (∀ i, i < 64 → tb l i = true → tb g i = true) := by
  unfold stB
  rw [Bool.or_eq_true, decide_eq_true_iff, decide_eq_true_iff, z64, z64]
  refine or_congr ⟨fun h i hi hl => ?_, fun h i hi => ?_⟩ ⟨fun h i hi hl => ?_, fun h i hi => ?_⟩
  · have := h i hi
    rw [tb_and, hl, Bool.true_and] at this
    exact this
  · rw [tb_and]
    cases hl : tb l i with
    | false => rfl
    | true => rw [h i hi hl]; rfl
  · have := h i hi
    rw [tb_and, hl, Bool.true_and, not_x hi] at this
    cases hg : tb g i with
    | true => rfl
    | false => rw [hg] at this; cases this
  · rw [tb_and, not_x hi]
    cases hl : tb l i with
    | false => rfl
    | true => rw [h i hi hl]; rfl
/-- agrees with the goal all over, or nowhere -/
def agB (l g Y : Int64) : Bool := decide ((Y ^^^ g) &&& l = 0) || decide ((Y ^^^ g) &&& l = l)
theorem ag_iff {l g Y : Int64} : agB l g Y = true ↔ (∀ i, i < 64 → tb l i = true → tb Y i = tb g i) ∨ (∀ i, i < 64 → tb l i = true → tb Y i = !tb g i) := by
  unfold agB
  rw [Bool.or_eq_true, decide_eq_true_iff, decide_eq_true_iff, z64]
  refine or_congr ⟨fun h i hi hl => ?_, fun h i hi => ?_⟩ ⟨fun h i hi hl => ?_, fun h => tb_ext fun i hi => ?_⟩
  · have := h i hi
    rw [tb_and, hl, Bool.and_true, tb_xor] at this
    revert this
    cases tb Y i <;> cases tb g i <;> decide
  · rw [tb_and, tb_xor]
    cases hl : tb l i with
    | false => rw [Bool.and_false]
    | true => rw [h i hi hl]; cases tb g i <;> rfl
  · have : tb ((Y ^^^ g) &&& l) i = tb l i := by rw [h]
    rw [tb_and, hl, Bool.and_true, tb_xor] at this
    revert this
    cases tb Y i <;> cases tb g i <;> decide
  · rw [tb_and, tb_xor]
    cases hl : tb l i with
    | false => rw [Bool.and_false]
    | true => rw [h i hi hl]; cases tb g i <;> rfl
theorem both_ag (l g Y : Int64) : (stB (l &&& Y) g && stB (l &&& ((l &&& Y) ^^^ (-1))) g) = (stB l g || agB l g Y) := by
  have tno : ∀ i, i < 64 → tb (l &&& ((l &&& Y) ^^^ (-1))) i = (tb l i && !tb Y i) := fun i hi => by
    rw [tb_and, not_x hi, tb_and]
    cases tb l i <;> rfl
  rw [Bool.eq_iff_iff, Bool.and_eq_true, Bool.or_eq_true, st_iff, st_iff, st_iff, ag_iff]
  constructor
  · rintro ⟨h1 | h1, h2 | h2⟩
    · refine .inl (.inl fun i hi hl => ?_)
      cases hy : tb Y i with
      | true => exact h1 i hi (by rw [tb_and, hl, hy]; rfl)
      | false => exact h2 i hi (by rw [tno i hi, hl, hy]; rfl)
    · refine .inr (.inr fun i hi hl => ?_)
      cases hy : tb Y i with
      | true => rw [h1 i hi (by rw [tb_and, hl, hy]; rfl)]; rfl
      | false => rw [h2 i hi (by rw [tno i hi, hl, hy]; rfl)]; rfl
    · refine .inr (.inl fun i hi hl => ?_)
      cases hy : tb Y i with
      | true => exact (h1 i hi (by rw [tb_and, hl, hy]; rfl)).symm
      | false => exact (h2 i hi (by rw [tno i hi, hl, hy]; rfl)).symm
    · refine .inl (.inr fun i hi hl => ?_)
      cases hy : tb Y i with
      | true => exact h1 i hi (by rw [tb_and, hl, hy]; rfl)
      | false => exact h2 i hi (by rw [tno i hi, hl, hy]; rfl)
  · have s1 : ∀ i, tb (l &&& Y) i = true → tb l i = true ∧ tb Y i = true := fun i h => by rw [tb_and, Bool.and_eq_true] at h; exact h
    have s2 : ∀ i, i < 64 → tb (l &&& ((l &&& Y) ^^^ (-1))) i = true → tb l i = true ∧ tb Y i = false := fun i hi h => by rw [tno i hi, Bool.and_eq_true, Bool.not_eq_true'] at h; exact h
    rintro ((h | h) | (h | h))
    · exact ⟨.inl fun i hi q => h i hi (s1 i q).1, .inl fun i hi q => h i hi (s2 i hi q).1⟩
    · exact ⟨.inr fun i hi q => h i hi (s1 i q).1, .inr fun i hi q => h i hi (s2 i hi q).1⟩
    · exact ⟨.inr fun i hi q => (h i hi (s1 i q).1).symm.trans (s1 i q).2, .inl fun i hi q => (h i hi (s2 i hi q).1).symm.trans (s2 i hi q).2⟩
    · refine ⟨.inl fun i hi q => ?_, .inr fun i hi q => ?_⟩
      · have := h i hi (s1 i q).1
        rw [(s1 i q).2] at this
        cases hg : tb g i with
        | false => rfl
        | true => rw [hg] at this; cases this
      · have := h i hi (s2 i hi q).1
        rw [(s2 i hi q).2] at this
        cases hg : tb g i with
        | true => rfl
        | false => rw [hg] at this; cases this
/-- the last asking tells all -/
def taB (I : FI) (l : Int64) (w y : Nat) : Bool := stB l (sL I 6 y) || anyB (fun q => toldB I q && agB l (sL I 6 y) (ywL I w q y)) 6
theorem ag_0 {l g : Int64} (h : agB l g 0 = true) : stB l g = true := by
  rw [ag_iff] at h
  rw [st_iff]
  rcases h with h | h
  · exact .inl fun i hi hl => by rw [← h i hi hl, tb_0]
  · refine .inr fun i hi hl => ?_
    have := h i hi hl
    rw [tb_0] at this
    cases hg : tb g i with
    | true => rfl
    | false => rw [hg] at this; cases this
theorem vl_0 {w y q : Nat} {l : Int64} (hy : y < 365) : vlG I (gvF I 0) l w y q = bif stB l (sL I 6 y) || agB l (sL I 6 y) (ywL I w q y) then y else 365 := by
  rw [← both_ag]
  show mxN (bif stB (l &&& ywL I w q y) (sL I 6 y) then y else 365) (bif stB (l &&& ((l &&& ywL I w q y) ^^^ (-1))) (sL I 6 y) then y else 365) = _
  unfold mxN
  cases stB (l &&& ywL I w q y) (sL I 6 y) <;> cases stB (l &&& ((l &&& ywL I w q y) ^^^ (-1))) (sL I 6 y)
  · rfl
  · show (bif decide (365 < y) then y else 365) = 365
    rw [decide_eq_false (by omega)]; rfl
  · show (bif decide (y < 365) then 365 else y) = 365
    rw [decide_eq_true hy]; rfl
  · show (bif decide (y < y) then y else y) = y
    cases decide (y < y) <;> rfl
theorem ta_C (H : Cls t I L P E c) {w y : Nat} (hwW : w < zW I) (hy : y < 365) (l : Int64) (hst : stB l (sL I 6 y) = false) : ∀ r q (J : FI) (K : FL), q + r = 6 → Cw t I L J K → ∃ (J' : FI) (K' : FL), V PR (d + 5) 86 26 [(0, vR (some (177, 0))), (1, vi (nI w)), (2, vi (nI y)), (3, vL l), (5, vL (sL I 6 y)), (7, vi (nI q))] [] (mm n J K P E c s) = some (.inl (some (vi (b2i (!alB (fun q => !(toldB I q && agB l (sL I 6 y) (ywL I w q y))) q r)))), mm n J' K' P E c s) ∧ Cw t I L J' K' ∧ J' 177 0 3 = J 177 0 3
  | 0, q, J, K, h, hw => by
    refine ⟨J, K, ?_, hw, rfl⟩
    rw [k_X7_tellsAll_26, show decide ((6 : Int32) ≤ nI q) = true from (nI_led (a := 6) (by decide) (by omega)).trans (decide_eq_true (by omega)), cond_true]
    rfl
  | r + 1, q, J, K, h, hw => by
    have hS : alB (fun q => !(toldB I q && agB l (sL I 6 y) (ywL I w q y))) q (r + 1) = (!(toldB I q && agB l (sL I 6 y) (ywL I w q y)) && alB (fun q => !(toldB I q && agB l (sL I 6 y) (ywL I w q y))) (q + 1) r) := rfl
    rw [hS, k_X7_tellsAll_26, show decide ((6 : Int32) ≤ nI q) = false from (nI_led (a := 6) (by decide) (by omega)).trans (decide_eq_false (by omega)), cond_false, x_has H hw (show q < 7 by omega), Vk_v, k_X7_tellsAll_42, b2i_eq0, nI_1]
    cases toldB I q with
    | false => exact ta_C H hwW hy l hst r (q + 1) J K (by omega) hw
    | true =>
      rw [Bool.not_true, cond_false, x_answers H hw hwW (show q < 7 by omega) hy, Vk_v, k_X7_tellsAll_56, b2i_eq0, nI_1, Bool.true_and]
      cases ha : anB I w q y with
      | false =>
        have h0 : agB l (sL I 6 y) (ywL I w q y) = false := by
          cases hq : agB l (sL I 6 y) (ywL I w q y) with
          | false => rfl
          | true =>
            have e0 : ywL I w q y = 0 := by unfold ywL; rw [ha]; rfl
            rw [e0] at hq
            rw [ag_0 hq] at hst
            cases hst
        rw [h0]
        exact ta_C H hwW hy l hst r (q + 1) J K (by omega) hw
      | true =>
        have hy1 : ywL I w q y = yesL I w q y := by unfold ywL; rw [ha]; rfl
        obtain ⟨J1, K1, r1, d1⟩ := x_yesOn (d := d) (n := n) (s := s) H hw hwW (show q < 7 by omega) hy
        have a1 : J1 177 0 3 = J 177 0 3 := d1.1 177 0 3 (by decide) (by decide) (by decide)
        obtain ⟨J2, K2, r2, w2, a2⟩ := ta_C H hwW hy l hst r (q + 1) J1 K1 (by omega) (hw.tr d1)
        rw [Bool.not_true, cond_false, r1, Vk_v, k_X7_tellsAll_70, lgc0, lgc0, hy1, nI_1]
        unfold agB
        cases decide ((yesL I w q y ^^^ sL I 6 y) &&& l = 0) with
        | true => exact ⟨J1, K1, rfl, hw.tr d1, a1⟩
        | false =>
          cases decide ((yesL I w q y ^^^ sL I 6 y) &&& l = l) with
          | true => exact ⟨J1, K1, rfl, hw.tr d1, a1⟩
          | false => exact ⟨J2, K2, r2, w2, a2.trans a1⟩
theorem c_tellsAll (H : Cls t I L P E c) {w y : Nat} (hwW : w < zW I) (hy : y < 365) (l : Int64) (hw : Cw t I L J K) : ∃ (J' : FI) (K' : FL), V PR (d + 5) 86 0 [(0, vR (some (177, 0))), (1, vi (nI w)), (2, vi (nI y)), (3, vL l)] [] (mm n J K P E c s) = some (.inl (some (vi (b2i (stB l (sL I 6 y) || !alB (fun q => !(toldB I q && agB l (sL I 6 y) (ywL I w q y))) 0 6)))), mm n J' K' P E c s) ∧ Cw t I L J' K' ∧ J' 177 0 3 = J 177 0 3 := by
  obtain ⟨J0, K0, r0, d0⟩ := x_soOn (d := d + 1) (n := n) (s := s) H hw (show 6 < 7 by decide) hy
  have a0 : J0 177 0 3 = J 177 0 3 := d0.1 177 0 3 (by decide) (by decide) (by decide)
  have r0' : V PR (d + 4) 10 0 [(0, vR (some (135, 0))), (1, vi (6 : Int32)), (2, vi (nI y))] [] (mm n J K P E c s) = some (.inl (some (vL (sL I 6 y))), mm n J0 K0 P E c s) := r0
  rw [k_X7_tellsAll_0, r0', Vk_v, k_X7_tellsAll_10, c_settled, Vk_v, k_X7_tellsAll_18, b2i_eq0]
  cases hst : stB l (sL I 6 y) with
  | true => exact ⟨J0, K0, rfl, hw.tr d0, a0⟩
  | false =>
    obtain ⟨J1, K1, r1, w1, a1⟩ := ta_C (d := d) (n := n) (s := s) H hwW hy l hst 6 0 J0 K0 rfl (hw.tr d0)
    exact ⟨J1, K1, r1, w1, a1.trans a0⟩
/-- the last asking: a fold -/
theorem oQ_last {w y : Nat} {l : Int64} (hy : y < 365) (htd : ∃ q, q < 6 ∧ toldB I q = true) {p : Nat × Int32} (hp : y < p.1) (hp2 : p.1 ≤ 365) : (oQ (toldB I) (vlG I (gvF I 0) l w y) w p 0 6).1 = bif stB l (sL I 6 y) || !alB (fun q => !(toldB I q && agB l (sL I 6 y) (ywL I w q y))) 0 6 then y else p.1 := by
  rw [oQ_1]
  cases hc : stB l (sL I 6 y) || !alB (fun q => !(toldB I q && agB l (sL I 6 y) (ywL I w q y))) 0 6 with
  | true =>
    rw [cond_true]
    refine Nat.le_antisymm ((mnF_iff 6 0 p.1).mpr (.inr ?_)) ?_
    · rw [Bool.or_eq_true] at hc
      rcases hc with hc | hc
      · obtain ⟨q, q1, q2⟩ := htd
        exact ⟨q, Nat.zero_le _, by omega, q2, by rw [vl_0 hy, hc]; exact Nat.le_refl _⟩
      · have : ∃ q, q < 6 ∧ (toldB I q && agB l (sL I 6 y) (ywL I w q y)) = true := by
          refine Classical.byContradiction fun hn => ?_
          have hal : alB (fun q => !(toldB I q && agB l (sL I 6 y) (ywL I w q y))) 0 6 = true := (alB_iff 6 0).mpr fun q _ hq => by
            cases hz : toldB I q && agB l (sL I 6 y) (ywL I w q y) with
            | false => rfl
            | true => exact absurd ⟨q, by omega, hz⟩ hn
          rw [hal] at hc
          cases hc
        obtain ⟨q, q1, q2⟩ := this
        rw [Bool.and_eq_true] at q2
        exact ⟨q, Nat.zero_le _, by omega, q2.1, by rw [vl_0 hy, q2.2, Bool.or_true]; exact Nat.le_refl _⟩
    · refine Nat.le_of_not_lt fun q => ?_
      have q2 := (mnF_iff 6 0 p.1).mp (Nat.le_sub_one_of_lt q)
      rcases q2 with q2 | ⟨u, _, _, _, u2⟩
      · omega
      · have := vl_ge (I := I) (k := 0) (w := w) (q := u) (l := l) hy
        omega
  | false =>
    rw [cond_false]
    rw [Bool.or_eq_false_iff, Bool.not_eq_false'] at hc
    refine Nat.le_antisymm mnF_le (Nat.le_of_not_lt fun q => ?_)
    have q2 := (mnF_iff 6 0 p.1).mp (Nat.le_sub_one_of_lt q)
    rcases q2 with q2 | ⟨u, _, u1, u2, u3⟩
    · omega
    · have hu := (alB_iff 6 0).mp hc.2 u (Nat.zero_le _) (by omega)
      rw [u2, Bool.true_and, Bool.not_eq_true'] at hu
      rw [vl_0 hy, hc.1, hu] at u3
      have : (365 : Nat) ≤ p.1 - 1 := u3
      omega
end PlanL
