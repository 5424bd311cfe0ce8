/-! PLAN, 2: the class's search. -/
section PlanC
variable {a d n t : Nat} {I J M : FI} {L K N : FL} {P : FR} {E : FE} {c s z : Nat}
theorem c_comes (H : WyH I a) (hw : Cw t I L J K) {x w as : Nat} (hwW : w < zW I) (hx : x < 365) (has : as < 3) (hc : 487 ≤ c) : V PR (d + 1) 85 0 [(0, vR (some (177, 0))), (1, vi (nI a)), (2, vi (nI x)), (3, vi (nI w)), (4, vi (nI as))] [] (mm n J K P E c s) = some (.inl (some (vi (bif fOk I a (plN I w) then nI (dyN I a x (decide (0 < as)) w) else -1))), mm n J K P E c s) := by
  have h6 := H.h6
  have h8 := H.h8
  have ha := H.ha
  have hp := H.hP w hwW
  have F2 := (far_I H.hf ha hp).2
  have e105 : J 105 0 w = nI (plN I w) := (hw.1 105 0 w (.inl rfl)).trans (pl_I H.hT H.hw hwW).2.2
  have e104 : J 104 0 (a * 8 + plN I w) = (bif fOk I a (plN I w) then nI (fN I a (plN I w)) else -1) := (hw.1 104 0 _ (.inl rfl)).trans ((H.hf.1 a _ ha hp).1.trans (far_I H.hf ha hp).1)
  rw [k_X7_comes_0, inb_nI (show w < 6 by omega) (by decide), cond_true, nI_clamp (by omega), e105, c_way (by omega) (by omega), Vk_v, e104, k_X7_comes_17]
  cases fOk I a (plN I w) with
  | false => rfl
  | true =>
    have e0 : decide (nI (fN I a (plN I w)) = 0) = decide (fN I a (plN I w) = 0) := by rw [decide_eq_decide]; exact nI_eq (b := 0) (by omega) (by decide)
    have e1 : decide (nI as ≤ 0) = decide (as ≤ 0) := nI_led (b := 0) (by omega) (by decide)
    rw [cond_true, cond_true, show decide ((0 : Int32) ≤ nI (fN I a (plN I w))) = true from (nI_led (a := 0) (by decide) (by omega)).trans (decide_eq_true (Nat.zero_le _)), cond_true, e0, e1]
    unfold dyN
    by_cases e : fN I a (plN I w) = 0
    · rw [e, decide_eq_true (rfl : (0 : Nat) = 0), Bool.not_true, cond_false, Bool.and_true]
      by_cases e2 : as ≤ 0
      · rw [decide_eq_true e2, decide_eq_false (show ¬ 0 < as by omega), cond_true, cond_false, nI_add]
      · rw [decide_eq_false e2, decide_eq_true (show 0 < as by omega), cond_true, cond_false, nI_1]
    · rw [decide_eq_false e, Bool.not_false, cond_true, Bool.and_false, cond_false, nI_add, Nat.add_zero]
/-- the day behind one asking, told -/
def DB (I : FI) (L : FL) (P : FR) (E : FE) (t c s n : Nat) (dd k : Nat) : Prop := ∀ w y v (l : Int64) (J : FI) (K : FL), w < zW I → y < 365 → v ≤ 365 → Cw t I L J K → ∃ (J' : FI) (K' : FL) (D : Nat), V PR dd 88 0 [(0, vR (some (177, 0))), (1, vi (nI w)), (2, vi (nI y)), (3, vL l), (5, vi (nI (2 - k))), (6, vi (nI v))] [] (mm n J K P E c s) = some (.inl (some (vi (nI D))), mm n J' K' P E c s) ∧ Cw t I L J' K' ∧ J' 177 0 3 = J 177 0 3 ∧ D ≤ 365 ∧ (D < v → D = gvF I k (plN I w) y l) ∧ (¬ D < v → v ≤ gvF I k (plN I w) y l)
theorem and_self64 (x : Int64) : x &&& x = x := tb_ext fun i _ => by rw [tb_and, Bool.and_self]
theorem mx_comm (x y : Nat) : mxN x y = mxN y x := by
  unfold mxN
  by_cases e : x < y
  · rw [decide_eq_true e, decide_eq_false (show ¬ y < x by omega)]; rfl
  · by_cases e2 : y < x
    · rw [decide_eq_false e, decide_eq_true e2]; rfl
    · rw [decide_eq_false e, decide_eq_false e2, cond_false, cond_false]; omega
theorem gvF_0 (k a y : Nat) : gvF I k a y 0 = y := gv_st (stB_0 _)
theorem vl_tri {k w y q : Nat} {l : Int64} (hy : y < 365) (h : l &&& ywL I w q y = 0 ∨ l &&& ywL I w q y = l) : vlG I (gvF I k) l w y q = gvF I k (plN I w) y l := by
  have hge : y ≤ gvF I k (plN I w) y l := gv_ge k (plN I w) y true l hy
  unfold vlG
  rcases h with h | h
  · rw [h, gvF_0, not_064, and_m1]
    unfold mxN
    by_cases e : y < gvF I k (plN I w) y l
    · rw [decide_eq_true e]; rfl
    · rw [decide_eq_false e]
      show y = _
      omega
  · have e2 : l &&& (l ^^^ (-1)) = 0 := (and_self_iff l l).mpr (and_self64 l)
    rw [h, e2, gvF_0]
    unfold mxN
    rw [decide_eq_false (show ¬ gvF I k (plN I w) y l < y by omega)]
    rfl
def stq (b : Bool) (g : Nat) (f : Int32) (p : Nat × Int32) : Nat × Int32 := bif b && decide (g < p.1) then (g, f) else p
theorem stq_le {b : Bool} {g : Nat} {f : Int32} {p : Nat × Int32} (hp : p.1 ≤ 365) : (stq b g f p).1 ≤ p.1 := by
  unfold stq
  cases hq : b && decide (g < p.1) with
  | false => exact Nat.le_refl _
  | true =>
    rw [Bool.and_eq_true] at hq
    exact Nat.le_of_lt (of_decide_eq_true hq.2)
/-- one question more -/
theorem lo_step (H : Cls t I L P E c) {k w y q dd : Nat} (hk : k < 3) (hwW : w < zW I) (hy : y < 365) (hq : q < 6) (DBk : DB I L P E t c s n (dd + 4) k) (l : Int64) {p : Nat × Int32} (hp : p.1 ≤ 365) {sn : Bool} (hs : sn = true → p.1 ≤ gvF I k (plN I w) y l) (hw : Cw t I L J K) (h3 : k = 2 → J 177 0 3 = p.2) : ∃ (J' : FI) (K' : FL) (sn' : Bool), V PR (dd + 5) 87 10 [(0, vR (some (177, 0))), (1, vi (nI w)), (2, vi (nI y)), (3, vL l), (5, vi (nI (2 - k))), (7, vi (nI p.1)), (8, vi (b2i sn)), (9, vi (nI q))] [] (mm n J K P E c s) = V PR (dd + 5) 87 10 [(0, vR (some (177, 0))), (1, vi (nI w)), (2, vi (nI y)), (3, vL l), (5, vi (nI (2 - k))), (7, vi (nI (stq (toldB I q) (vlG I (gvF I k) l w y q) (nI (10 * w + q)) p).1)), (8, vi (b2i sn')), (9, vi (nI (q + 1)))] [] (mm n J' K' P E c s) ∧ Cw t I L J' K' ∧ J' 177 0 3 = (bif decide (k = 2) then (stq (toldB I q) (vlG I (gvF I k) l w y q) (nI (10 * w + q)) p).2 else J 177 0 3) ∧ (sn' = true → (stq (toldB I q) (vlG I (gvF I k) l w y q) (nI (10 * w + q)) p).1 ≤ gvF I k (plN I w) y l) := by
  have h6 : zW I ≤ 6 := H.1.2.2.1.2
  have e5 : decide (nI (2 - k) = 0) = decide (k = 2) := by
    rw [decide_eq_decide]
    exact (nI_eq (b := 0) (by omega) (by decide)).trans ⟨fun q => by omega, fun q => by omega⟩
  have e10 : (10 : Int32) * nI w + nI q = nI (10 * w + q) := by rw [show (10 : Int32) = nI 10 from rfl, pk_mul, nI_add]
  have hno : ∀ (J1 : FI), J1 177 0 3 = J 177 0 3 → J1 177 0 3 = (bif decide (k = 2) then p.2 else J 177 0 3) := fun J1 e => by
    by_cases q2 : k = 2
    · rw [decide_eq_true q2, e, h3 q2]; rfl
    · rw [decide_eq_false q2, e]; rfl
  -- keep
  have keep : ∀ (J1 : FI) (K1 : FL) (sn' : Bool), Cw t I L J1 K1 → J1 177 0 3 = J 177 0 3 → stq (toldB I q) (vlG I (gvF I k) l w y q) (nI (10 * w + q)) p = p → (sn' = true → p.1 ≤ gvF I k (plN I w) y l) → ∃ (J' : FI) (K' : FL) (sn2 : Bool), V PR (dd + 5) 87 10 [(0, vR (some (177, 0))), (1, vi (nI w)), (2, vi (nI y)), (3, vL l), (5, vi (nI (2 - k))), (7, vi (nI p.1)), (8, vi (b2i sn')), (9, vi (nI (q + 1)))] [] (mm n J1 K1 P E c s) = V PR (dd + 5) 87 10 [(0, vR (some (177, 0))), (1, vi (nI w)), (2, vi (nI y)), (3, vL l), (5, vi (nI (2 - k))), (7, vi (nI (stq (toldB I q) (vlG I (gvF I k) l w y q) (nI (10 * w + q)) p).1)), (8, vi (b2i sn2)), (9, vi (nI (q + 1)))] [] (mm n J' K' P E c s) ∧ Cw t I L J' K' ∧ J' 177 0 3 = (bif decide (k = 2) then (stq (toldB I q) (vlG I (gvF I k) l w y q) (nI (10 * w + q)) p).2 else J 177 0 3) ∧ (sn2 = true → (stq (toldB I q) (vlG I (gvF I k) l w y q) (nI (10 * w + q)) p).1 ≤ gvF I k (plN I w) y l) := fun J1 K1 sn' g1 g2 g3 g4 => by
    rw [g3]
    exact ⟨J1, K1, sn', rfl, g1, hno J1 g2, g4⟩
  -- put
  have put : ∀ (J1 : FI) (K1 : FL) (sn' : Bool) (g : Nat), Cw t I L J1 K1 → J1 177 0 3 = J 177 0 3 → stq (toldB I q) (vlG I (gvF I k) l w y q) (nI (10 * w + q)) p = (g, nI (10 * w + q)) → (sn' = true → g ≤ gvF I k (plN I w) y l) → ∃ (J' : FI) (K' : FL) (sn2 : Bool), (bif (!decide (nI (2 - k) = 0)) then V PR (dd + 5) 87 10 [(0, vR (some (177, 0))), (1, vi (nI w)), (2, vi (nI y)), (3, vL l), (5, vi (nI (2 - k))), (7, vi (nI g)), (8, vi (b2i sn')), (9, vi (nI (q + 1)))] [] (mm n (up3 J1 177 0 3 (J1 177 0 3)) K1 P E c s) else V PR (dd + 5) 87 10 [(0, vR (some (177, 0))), (1, vi (nI w)), (2, vi (nI y)), (3, vL l), (5, vi (nI (2 - k))), (7, vi (nI g)), (8, vi (b2i sn')), (9, vi (nI (q + 1)))] [] (mm n (up3 J1 177 0 3 (10 * nI w + nI q)) K1 P E c s)) = V PR (dd + 5) 87 10 [(0, vR (some (177, 0))), (1, vi (nI w)), (2, vi (nI y)), (3, vL l), (5, vi (nI (2 - k))), (7, vi (nI (stq (toldB I q) (vlG I (gvF I k) l w y q) (nI (10 * w + q)) p).1)), (8, vi (b2i sn2)), (9, vi (nI (q + 1)))] [] (mm n J' K' P E c s) ∧ Cw t I L J' K' ∧ J' 177 0 3 = (bif decide (k = 2) then (stq (toldB I q) (vlG I (gvF I k) l w y q) (nI (10 * w + q)) p).2 else J 177 0 3) ∧ (sn2 = true → (stq (toldB I q) (vlG I (gvF I k) l w y q) (nI (10 * w + q)) p).1 ≤ gvF I k (plN I w) y l) := fun J1 K1 sn' g g1 g2 g3 g4 => by
    rw [g3, e5]
    by_cases q2 : k = 2
    · rw [decide_eq_true q2]
      exact ⟨up3 J1 177 0 3 (10 * nI w + nI q), K1, sn', rfl, g1.upI (by decide) rfl (by decide), by rw [up3_i, e10]; rfl, g4⟩
    · rw [decide_eq_false q2]
      exact ⟨up3 J1 177 0 3 (J1 177 0 3), K1, sn', rfl, g1.upI (by decide) rfl (by decide), by rw [up3_i]; exact g2, g4⟩
  rw [k_X7_lastDayOver_10, show decide ((6 : Int32) ≤ nI q) = false from (nI_led (a := 6) (by decide) (by omega)).trans (decide_eq_false (by omega)), cond_false, x_has H hw (show q < 7 by omega), Vk_v, k_X7_lastDayOver_26, b2i_eq0, nI_1]
  cases ht : toldB I q with
  | false =>
    rw [ht] at keep
    exact keep J K sn hw rfl rfl hs
  | true =>
    rw [ht] at keep put
    rw [Bool.not_true, cond_false]
    -- both ways to split
    have tri : ∀ (J1 : FI) (K1 : FL) (Y : Int64), Cw t I L J1 K1 → J1 177 0 3 = J 177 0 3 → (l &&& ywL I w q y = 0 ∨ l &&& ywL I w q y = l) → ∃ (J' : FI) (K' : FL) (sn2 : Bool), (bif (!decide (b2i sn = 0)) then V PR (dd + 5) 87 10 [(0, vR (some (177, 0))), (1, vi (nI w)), (2, vi (nI y)), (3, vL l), (5, vi (nI (2 - k))), (7, vi (nI p.1)), (8, vi (1 : Int32)), (9, vi (nI (q + 1)))] [] (mm n J1 K1 P E c s) else Vk (dd + 4) 87 121 [] [(0, vR (some (177, 0))), (1, vi (nI w)), (2, vi (nI y)), (3, vL l), (5, vi (nI (2 - k))), (7, vi (nI p.1)), (8, vi (b2i sn)), (9, vi (nI q)), (10, vL Y), (12, vi (0 : Int32))] (V PR (dd + 4) 88 0 [(0, vR (some (177, 0))), (1, vi (nI w)), (2, vi (nI y)), (3, vL l), (5, vi (nI (2 - k))), (6, vi (nI p.1))] [] (mm n J1 K1 P E c s))) = V PR (dd + 5) 87 10 [(0, vR (some (177, 0))), (1, vi (nI w)), (2, vi (nI y)), (3, vL l), (5, vi (nI (2 - k))), (7, vi (nI (stq true (vlG I (gvF I k) l w y q) (nI (10 * w + q)) p).1)), (8, vi (b2i sn2)), (9, vi (nI (q + 1)))] [] (mm n J' K' P E c s) ∧ Cw t I L J' K' ∧ J' 177 0 3 = (bif decide (k = 2) then (stq true (vlG I (gvF I k) l w y q) (nI (10 * w + q)) p).2 else J 177 0 3) ∧ (sn2 = true → (stq true (vlG I (gvF I k) l w y q) (nI (10 * w + q)) p).1 ≤ gvF I k (plN I w) y l) := fun J1 K1 Y g1 g2 g3 => by
      have hv := vl_tri (I := I) (k := k) hy g3
      rw [b2i_eq0, Bool.not_not]
      cases hsn : sn with
      | true =>
        rw [cond_true]
        refine keep J1 K1 true g1 g2 ?_ (fun _ => hs hsn)
        unfold stq
        rw [hv, decide_eq_false (show ¬ gvF I k (plN I w) y l < p.1 by have := hs hsn; omega)]
        rfl
      | false =>
        obtain ⟨J2, K2, D, r1, r2, r3, r4, r5, r6⟩ := DBk w y p.1 l J1 K1 hwW hy hp g1
        rw [cond_false, r1, Vk_v]
        have e124 : V PR (dd + 5) 87 124 [(0, vR (some (177, 0))), (1, vi (nI w)), (2, vi (nI y)), (3, vL l), (5, vi (nI (2 - k))), (7, vi (nI p.1)), (8, vi (b2i false)), (9, vi (nI q)), (10, vL Y), (12, vi (0 : Int32))] [vi (nI D)] (mm n J2 K2 P E c s) = bif decide (p.1 ≤ D) then V PR (dd + 5) 87 10 [(0, vR (some (177, 0))), (1, vi (nI w)), (2, vi (nI y)), (3, vL l), (5, vi (nI (2 - k))), (7, vi (nI p.1)), (8, vi (b2i true)), (9, vi (nI (q + 1)))] [] (mm n J2 K2 P E c s) else (bif (!decide (nI (2 - k) = 0)) then V PR (dd + 5) 87 10 [(0, vR (some (177, 0))), (1, vi (nI w)), (2, vi (nI y)), (3, vL l), (5, vi (nI (2 - k))), (7, vi (nI D)), (8, vi (b2i true)), (9, vi (nI (q + 1)))] [] (mm n (up3 J2 177 0 3 (J2 177 0 3)) K2 P E c s) else V PR (dd + 5) 87 10 [(0, vR (some (177, 0))), (1, vi (nI w)), (2, vi (nI y)), (3, vL l), (5, vi (nI (2 - k))), (7, vi (nI D)), (8, vi (b2i true)), (9, vi (nI (q + 1)))] [] (mm n (up3 J2 177 0 3 (10 * nI w + nI q)) K2 P E c s)) := by
          rw [k_X7_lastDayOver_124, show decide ((0 : Int32) = 0) = true by decide +kernel, show decide (b2i false = 0) = true by decide +kernel, nI_led (by omega) (by omega), nI_1]
          rfl
        rw [e124]
        by_cases e : D < p.1
        · rw [decide_eq_false (show ¬ p.1 ≤ D by omega), cond_false]
          refine put J2 K2 true D r2 (r3.trans g2) ?_ (fun _ => by rw [r5 e]; exact Nat.le_refl _)
          unfold stq
          rw [hv, ← r5 e, decide_eq_true e]
          rfl
        · rw [decide_eq_true (show p.1 ≤ D by omega), cond_true]
          refine keep J2 K2 true r2 (r3.trans g2) ?_ (fun _ => r6 e)
          unfold stq
          rw [hv, decide_eq_false (show ¬ gvF I k (plN I w) y l < p.1 by have := r6 e; omega)]
          rfl
    have hpp : decide (nI p.1 ≤ nI p.1) = true := (nI_led (by omega) (by omega)).trans (decide_eq_true (Nat.le_refl _))
    rw [x_answers H hw hwW (show q < 7 by omega) hy, Vk_v]
    cases ha : anB I w q y with
    | false =>
      have hy0 : ywL I w q y = 0 := by unfold ywL; rw [ha]; rfl
      have e40 : V PR (dd + 5) 87 40 [(0, vR (some (177, 0))), (1, vi (nI w)), (2, vi (nI y)), (3, vL l), (5, vi (nI (2 - k))), (7, vi (nI p.1)), (8, vi (b2i sn)), (9, vi (nI q))] [vi (b2i false)] (mm n J K P E c s) = (bif (!decide (b2i sn = 0)) then V PR (dd + 5) 87 10 [(0, vR (some (177, 0))), (1, vi (nI w)), (2, vi (nI y)), (3, vL l), (5, vi (nI (2 - k))), (7, vi (nI p.1)), (8, vi (1 : Int32)), (9, vi (nI (q + 1)))] [] (mm n J K P E c s) else Vk (dd + 4) 87 121 [] [(0, vR (some (177, 0))), (1, vi (nI w)), (2, vi (nI y)), (3, vL l), (5, vi (nI (2 - k))), (7, vi (nI p.1)), (8, vi (b2i sn)), (9, vi (nI q)), (10, vL (0)), (12, vi (0 : Int32))] (V PR (dd + 4) 88 0 [(0, vR (some (177, 0))), (1, vi (nI w)), (2, vi (nI y)), (3, vL l), (5, vi (nI (2 - k))), (6, vi (nI p.1))] [] (mm n J K P E c s))) := by
        rw [k_X7_lastDayOver_40, show decide (b2i false = 0) = true by decide +kernel, cond_true, lgc0, decide_eq_true (rfl : (0 : Int64) = 0), cond_true, hpp, nI_1]
        cases sn <;> rfl
      rw [e40]
      exact tri J K 0 hw rfl (.inl (by rw [hy0, and_064]))
    | true =>
      have hy1 : ywL I w q y = yesL I w q y := by unfold ywL; rw [ha]; rfl
      obtain ⟨J1, K1, r1, d1⟩ := x_yesOn (d := dd) (n := n) (s := s) H hw hwW (show q < 7 by omega) hy
      have w1 := hw.tr d1
      have a1 : J1 177 0 3 = J 177 0 3 := d1.1 177 0 3 (by decide) (by decide) (by decide)
      obtain ⟨Y, hY⟩ : ∃ Y, Y = yesL I w q y &&& l := ⟨_, rfl⟩
      have hYl : l &&& ywL I w q y = Y := by rw [hy1, hY, and_comm64]
      have e40 : V PR (dd + 5) 87 40 [(0, vR (some (177, 0))), (1, vi (nI w)), (2, vi (nI y)), (3, vL l), (5, vi (nI (2 - k))), (7, vi (nI p.1)), (8, vi (b2i sn)), (9, vi (nI q))] [vi (b2i true)] (mm n J K P E c s) = V PR (dd + 5) 87 54 [(0, vR (some (177, 0))), (1, vi (nI w)), (2, vi (nI y)), (3, vL l), (5, vi (nI (2 - k))), (7, vi (nI p.1)), (8, vi (b2i sn)), (9, vi (nI q))] [vL (yesL I w q y)] (mm n J1 K1 P E c s) := by
        rw [k_X7_lastDayOver_40, show decide (b2i true = 0) = false by decide +kernel, cond_false, r1, Vk_v]
      rw [e40]
      by_cases t1 : Y = 0
      · have e54 : V PR (dd + 5) 87 54 [(0, vR (some (177, 0))), (1, vi (nI w)), (2, vi (nI y)), (3, vL l), (5, vi (nI (2 - k))), (7, vi (nI p.1)), (8, vi (b2i sn)), (9, vi (nI q))] [vL (yesL I w q y)] (mm n J1 K1 P E c s) = (bif (!decide (b2i sn = 0)) then V PR (dd + 5) 87 10 [(0, vR (some (177, 0))), (1, vi (nI w)), (2, vi (nI y)), (3, vL l), (5, vi (nI (2 - k))), (7, vi (nI p.1)), (8, vi (1 : Int32)), (9, vi (nI (q + 1)))] [] (mm n J1 K1 P E c s) else Vk (dd + 4) 87 121 [] [(0, vR (some (177, 0))), (1, vi (nI w)), (2, vi (nI y)), (3, vL l), (5, vi (nI (2 - k))), (7, vi (nI p.1)), (8, vi (b2i sn)), (9, vi (nI q)), (10, vL (Y)), (12, vi (0 : Int32))] (V PR (dd + 4) 88 0 [(0, vR (some (177, 0))), (1, vi (nI w)), (2, vi (nI y)), (3, vL l), (5, vi (nI (2 - k))), (6, vi (nI p.1))] [] (mm n J1 K1 P E c s))) := by
          rw [k_X7_lastDayOver_54, ← hY, lgc0, decide_eq_true t1, cond_true, hpp, nI_1]
          cases sn <;> rfl
        rw [e54]
        exact tri J1 K1 Y w1 a1 (.inl (hYl.trans t1))
      · by_cases t2 : Y = l
        · have e54 : V PR (dd + 5) 87 54 [(0, vR (some (177, 0))), (1, vi (nI w)), (2, vi (nI y)), (3, vL l), (5, vi (nI (2 - k))), (7, vi (nI p.1)), (8, vi (b2i sn)), (9, vi (nI q))] [vL (yesL I w q y)] (mm n J1 K1 P E c s) = (bif (!decide (b2i sn = 0)) then V PR (dd + 5) 87 10 [(0, vR (some (177, 0))), (1, vi (nI w)), (2, vi (nI y)), (3, vL l), (5, vi (nI (2 - k))), (7, vi (nI p.1)), (8, vi (1 : Int32)), (9, vi (nI (q + 1)))] [] (mm n J1 K1 P E c s) else Vk (dd + 4) 87 121 [] [(0, vR (some (177, 0))), (1, vi (nI w)), (2, vi (nI y)), (3, vL l), (5, vi (nI (2 - k))), (7, vi (nI p.1)), (8, vi (b2i sn)), (9, vi (nI q)), (10, vL (Y)), (12, vi (0 : Int32))] (V PR (dd + 4) 88 0 [(0, vR (some (177, 0))), (1, vi (nI w)), (2, vi (nI y)), (3, vL l), (5, vi (nI (2 - k))), (6, vi (nI p.1))] [] (mm n J1 K1 P E c s))) := by
            rw [k_X7_lastDayOver_54, ← hY, lgc0, decide_eq_false t1, cond_false, lgc0, decide_eq_true t2, cond_true, hpp, nI_1]
            cases sn <;> rfl
          rw [e54]
          exact tri J1 K1 Y w1 a1 (.inr (hYl.trans t2))
        · obtain ⟨J2, K2, D1, q1, q2, q3, q4, q5, q6⟩ := DBk w y p.1 (l &&& (Y ^^^ (-1))) J1 K1 hwW hy hp w1
          have hvl : vlG I (gvF I k) l w y q = mxN (gvF I k (plN I w) y Y) (gvF I k (plN I w) y (l &&& (Y ^^^ (-1)))) := by unfold vlG; rw [hYl]
          obtain ⟨m1, m2⟩ := mx_le1 (gvF I k (plN I w) y Y) (gvF I k (plN I w) y (l &&& (Y ^^^ (-1))))
          have e54 : V PR (dd + 5) 87 54 [(0, vR (some (177, 0))), (1, vi (nI w)), (2, vi (nI y)), (3, vL l), (5, vi (nI (2 - k))), (7, vi (nI p.1)), (8, vi (b2i sn)), (9, vi (nI q))] [vL (yesL I w q y)] (mm n J1 K1 P E c s) = V PR (dd + 5) 87 124 [(0, vR (some (177, 0))), (1, vi (nI w)), (2, vi (nI y)), (3, vL l), (5, vi (nI (2 - k))), (7, vi (nI p.1)), (8, vi (b2i sn)), (9, vi (nI q)), (10, vL Y), (12, vi (1 : Int32))] [vi (nI D1)] (mm n J2 K2 P E c s) := by
            rw [k_X7_lastDayOver_54, ← hY, lgc0, decide_eq_false t1, cond_false, lgc0, decide_eq_false t2, cond_false, q1, Vk_v]
          have e124 : V PR (dd + 5) 87 124 [(0, vR (some (177, 0))), (1, vi (nI w)), (2, vi (nI y)), (3, vL l), (5, vi (nI (2 - k))), (7, vi (nI p.1)), (8, vi (b2i sn)), (9, vi (nI q)), (10, vL Y), (12, vi (1 : Int32))] [vi (nI D1)] (mm n J2 K2 P E c s) = bif decide (p.1 ≤ D1) then V PR (dd + 5) 87 10 [(0, vR (some (177, 0))), (1, vi (nI w)), (2, vi (nI y)), (3, vL l), (5, vi (nI (2 - k))), (7, vi (nI p.1)), (8, vi (b2i sn)), (9, vi (nI (q + 1)))] [] (mm n J2 K2 P E c s) else Vk (dd + 4) 87 154 [vi (nI D1)] [(0, vR (some (177, 0))), (1, vi (nI w)), (2, vi (nI y)), (3, vL l), (5, vi (nI (2 - k))), (7, vi (nI p.1)), (8, vi (b2i sn)), (9, vi (nI q)), (12, vi (1 : Int32))] (V PR (dd + 4) 88 0 [(0, vR (some (177, 0))), (1, vi (nI w)), (2, vi (nI y)), (3, vL Y), (5, vi (nI (2 - k))), (6, vi (nI p.1))] [] (mm n J2 K2 P E c s)) := by
            rw [k_X7_lastDayOver_124, show decide ((1 : Int32) = 0) = false by decide +kernel, cond_false, nI_led (by omega) (by omega), nI_1]
            cases decide (p.1 ≤ D1) <;> cases sn <;> rfl
          rw [e54, e124]
          by_cases u1 : D1 < p.1
          · obtain ⟨J3, K3, D2, z1, z2, z3, z4, z5, z6⟩ := DBk w y p.1 Y J2 K2 hwW hy hp q2
            have a3 : J3 177 0 3 = J 177 0 3 := z3.trans (q3.trans a1)
            rw [decide_eq_false (show ¬ p.1 ≤ D1 by omega), cond_false, z1, Vk_v, k_X7_lastDayOver_157, c_max (by omega) (by omega), Vk_v]
            obtain ⟨g, hg⟩ : ∃ g, g = (bif decide (D1 < D2) then D2 else D1) := ⟨_, rfl⟩
            have hg2 : g = mxN D1 D2 := hg
            have hgl : g < 2 ^ 31 := by
              have := (mx_lt D1 D2 (2 ^ 31)).mpr ⟨by omega, by omega⟩
              omega
            have e160 : V PR (dd + 5) 87 160 [(0, vR (some (177, 0))), (1, vi (nI w)), (2, vi (nI y)), (3, vL l), (5, vi (nI (2 - k))), (7, vi (nI p.1)), (8, vi (b2i sn)), (9, vi (nI q)), (12, vi (1 : Int32))] [vi (nI g)] (mm n J3 K3 P E c s) = bif decide (p.1 ≤ g) then V PR (dd + 5) 87 10 [(0, vR (some (177, 0))), (1, vi (nI w)), (2, vi (nI y)), (3, vL l), (5, vi (nI (2 - k))), (7, vi (nI p.1)), (8, vi (b2i sn)), (9, vi (nI (q + 1)))] [] (mm n J3 K3 P E c s) else (bif (!decide (nI (2 - k) = 0)) then V PR (dd + 5) 87 10 [(0, vR (some (177, 0))), (1, vi (nI w)), (2, vi (nI y)), (3, vL l), (5, vi (nI (2 - k))), (7, vi (nI g)), (8, vi (b2i sn)), (9, vi (nI (q + 1)))] [] (mm n (up3 J3 177 0 3 (J3 177 0 3)) K3 P E c s) else V PR (dd + 5) 87 10 [(0, vR (some (177, 0))), (1, vi (nI w)), (2, vi (nI y)), (3, vL l), (5, vi (nI (2 - k))), (7, vi (nI g)), (8, vi (b2i sn)), (9, vi (nI (q + 1)))] [] (mm n (up3 J3 177 0 3 (10 * nI w + nI q)) K3 P E c s)) := by
              rw [k_X7_lastDayOver_160, nI_led (by omega) hgl, nI_1, show decide ((1 : Int32) = 0) = false by decide +kernel]
              cases decide (p.1 ≤ g) <;> cases sn <;> rfl
            rw [← hg, e160]
            by_cases u2 : g < p.1
            · have u3 := (mx_lt D1 D2 p.1).mp (by omega)
              have hge : g = vlG I (gvF I k) l w y q := by
                rw [hvl, hg2, q5 u3.1, z5 u3.2, mx_comm]
              rw [decide_eq_false (show ¬ p.1 ≤ g by omega), cond_false]
              refine put J3 K3 sn g z2 a3 ?_ (fun e => by have := hs e; omega)
              unfold stq
              rw [← hge, decide_eq_true u2]
              rfl
            · have hD2 : ¬ D2 < p.1 := fun e => u2 (by rw [hg2]; exact (mx_lt D1 D2 p.1).mpr ⟨u1, e⟩)
              have := z6 hD2
              rw [decide_eq_true (show p.1 ≤ g by omega), cond_true]
              refine keep J3 K3 sn z2 a3 ?_ hs
              unfold stq
              rw [hvl, decide_eq_false (show ¬ mxN (gvF I k (plN I w) y Y) (gvF I k (plN I w) y (l &&& (Y ^^^ (-1)))) < p.1 by omega)]
              rfl
          · have := q6 u1
            rw [decide_eq_true (show p.1 ≤ D1 by omega), cond_true]
            refine keep J2 K2 sn q2 (q3.trans a1) ?_ hs
            unfold stq
            rw [hvl, decide_eq_false (show ¬ mxN (gvF I k (plN I w) y Y) (gvF I k (plN I w) y (l &&& (Y ^^^ (-1)))) < p.1 by omega)]
            rfl
end PlanC
