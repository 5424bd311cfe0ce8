/-! PLAN, 5: the class's answer; the reference's search. -/
section PlanR
variable {a d n t : Nat} {I J M : FI} {L K N : FL} {P : FR} {E : FE} {c s z : Nat}
theorem lo_none (H : Cls t I L P E c) (hn : ∀ q, q < 6 → toldB I q = false) {k dd : Nat} : LOp I L P E t c s n (dd + 5) k := fun w y l p J K hwW hy hp hw h3 => by
  have A : ∀ r q, q + r = 6 → V PR (dd + 5) 87 10 [(0, vR (some (177, 0))), (1, vi (nI w)), (2, vi (nI y)), (3, vL l), (5, vi (nI (2 - k))), (7, vi (nI p.1)), (8, vi (0 : Int32)), (9, vi (nI q))] [] (mm n J K P E c s) = some (.inl (some (vi (nI p.1))), mm n J K P E c s) := by
    intro r
    induction r with
    | zero =>
      intro q hq
      rw [k_X7_lastDayOver_10, show decide ((6 : Int32) ≤ nI q) = true from (nI_led (a := 6) (by decide) (by omega)).trans (decide_eq_true (by omega)), cond_true]
    | succ r ih =>
      intro q hq
      rw [k_X7_lastDayOver_10, show decide ((6 : Int32) ≤ nI q) = false from (nI_led (a := 6) (by decide) (by omega)).trans (decide_eq_false (by omega)), cond_false, x_has H hw (show q < 7 by omega), Vk_v, k_X7_lastDayOver_26, b2i_eq0, nI_1, hn q (by omega)]
      exact ih (q + 1) (by omega)
  have B : ∀ r q, q + r = 6 → oQ (toldB I) (vlG I (gvF I k) l w y) w p q r = p := by
    intro r
    induction r with
    | zero => intro q _; rfl
    | succ r ih =>
      intro q hq
      show oQ (toldB I) (vlG I (gvF I k) l w y) w (bif toldB I q && decide (vlG I (gvF I k) l w y q < p.1) then (vlG I (gvF I k) l w y q, nI (10 * w + q)) else p) (q + 1) r = p
      rw [hn q (by omega)]
      exact ih (q + 1) (by omega)
  rw [B 6 0 rfl]
  refine ⟨J, K, ?_, hw, ?_⟩
  · rw [k_X7_lastDayOver_0]
    exact A 6 0 rfl
  · by_cases e : k = 2
    · rw [decide_eq_true e]; exact h3 e
    · rw [decide_eq_false e]; rfl
theorem c_LD2 (H : Cls t I L P E c) (hW : RWell I) (hF : RFar I) : LDp I L P E t c s n (d + 12) 2 := by
  by_cases h : ∃ q, q < 6 ∧ toldB I q = true
  · have l0 : LDp I L P E t c s n (d + 6) 0 := c_LD H (by decide) (fun _ => h) (fun e => absurd e (by decide))
    have o1 : LOp I L P E t c s n (d + 8) 1 := c_LO (dd := d + 3) H (by decide) (c_DB (dd := d + 3) H hW hF (by decide) l0)
    have l1 : LDp I L P E t c s n (d + 9) 1 := c_LD (dd := d + 3) H (by decide) (fun e => by cases e) (fun _ => o1)
    have o2 : LOp I L P E t c s n (d + 11) 2 := c_LO (dd := d + 6) H (by decide) (c_DB (dd := d + 6) H hW hF (by decide) l1)
    exact c_LD (dd := d + 6) H (by decide) (fun e => by cases e) (fun _ => o2)
  · exact c_LD (dd := d + 6) H (by decide) (fun e => by cases e) (fun _ => lo_none (dd := d + 6) H (fun q hq => by
      cases hz : toldB I q with
      | false => rfl
      | true => exact absurd ⟨q, hq, hz⟩ h))
/-- the best plan and its first asking -/
def plP (I : FI) (a x : Nat) (l : Int64) : Nat × Int32 := bif stB l (sL I 6 x) then (x, -1) else oW (okW I a x false) (toldB I) (fun w => vlG I (gvF I 2) l w (dyN I a x false w)) (365, -1) 0 (zW I)
def plV (I : FI) (a x : Nat) (l : Int64) : Int32 := bif decide ((plP I a x l).1 < 365) then nI ((plP I a x l).1 - x) else -1
theorem plP_1 {x : Nat} {l : Int64} : (plP I a x l).1 = gvN I 3 a x false l := by
  unfold plP
  cases hst : stB l (sL I 6 x) with
  | true => rw [gv_st hst]; rfl
  | false => rw [gv_no hst, cond_false, oW_1 _ _ _ (Nat.le_refl _)]
theorem c_fewestDays (H : Cls t I L P E c) (W : WyH I a) {x : Nat} (hx : x < 365) (l : Int64) (hw : Cw t I L J K) : ∃ (J' : FI) (K' : FL), V PR (d + 13) 83 0 [(0, vR (some (177, 0))), (1, vi (nI a)), (2, vi (nI x)), (3, vL l)] [] (mm n J K P E c s) = some (.inl (some (vi (plV I a x l))), mm n J' K' P E c s) ∧ Cw t I L J' K' ∧ J' 177 0 3 = (plP I a x l).2 := by
  have w0 : Cw t I L (up3 J 177 0 3 (-1)) K := hw.upI (by decide) rfl (by decide)
  obtain ⟨J0, K0, r0, d0⟩ := x_soOn (d := d + 9) (n := n) (s := s) H w0 (show 6 < 7 by decide) hx
  have a0 : J0 177 0 3 = -1 := (d0.1 177 0 3 (by decide) (by decide) (by decide)).trans (up3_i _ _ _ _ _)
  have r0' : V PR (d + 12) 10 0 [(0, vR (some (135, 0))), (1, vi (6 : Int32)), (2, vi (nI x))] [] (mm n (up3 J 177 0 3 (-1)) K P E c s) = some (.inl (some (vL (sL I 6 x))), mm n J0 K0 P E c s) := r0
  rw [k_X7_fewestDays_0, r0', Vk_v, k_X7_fewestDays_16, c_settled, Vk_v, k_X7_fewestDays_19, b2i_eq0]
  unfold plV plP
  cases hst : stB l (sL I 6 x) with
  | true =>
    refine ⟨J0, K0, ?_, w0.tr d0, a0⟩
    show _ = some (Sum.inl (some (vi (bif decide (x < 365) then nI (x - x) else -1))), mm n J0 K0 P E c s)
    rw [decide_eq_true hx, cond_true, Nat.sub_self]
    rfl
  | false =>
    obtain ⟨J1, K1, r1, w1, a1⟩ := c_LD2 (d := d) (n := n) (s := s) H W.hw W.hf a x l (365, -1) J0 K0 W hx (Nat.le_refl _) (w0.tr d0) (fun _ => a0)
    obtain ⟨o, ho⟩ : ∃ o, o = oW (okW I a x false) (toldB I) (fun w => vlG I (gvF I 2) l w (dyN I a x false w)) (365, -1) 0 (zW I) := ⟨_, rfl⟩
    have hole : o.1 ≤ 365 := by rw [ho, oW_1 _ _ _ (Nat.le_refl _)]; exact mnF_le
    have hoge : x ≤ o.1 := by
      have e : o.1 = gvN I 3 a x false l := by rw [ho, gv_no hst, oW_1 _ _ _ (Nat.le_refl _)]
      rw [e]
      exact gv_ge 3 a x false l hx
    have r1' : V PR (d + 12) 84 0 [(0, vR (some (177, 0))), (1, vi (nI a)), (2, vi (nI x)), (3, vL l), (5, vi (0 : Int32)), (6, vi (365 : Int32))] [] (mm n J0 K0 P E c s) = some (.inl (some (vi (nI o.1))), mm n J1 K1 P E c s) := by rw [ho]; exact r1
    have a1' : J1 177 0 3 = o.2 := by rw [ho]; exact a1
    rw [Bool.not_false, cond_true, r1', Vk_v, k_X7_fewestDays_35, ← ho]
    refine ⟨J1, K1, ?_, w1, a1'⟩
    have e1 : decide (nI o.1 < (365 : Int32)) = decide (o.1 < 365) := nI_ltd (b := 365) (by omega) (by decide)
    have e2 : nI o.1 - nI x = nI (o.1 - x) := by
      have : nI o.1 = nI (o.1 - x) + nI x := by rw [nI_add]; exact congrArg nI (by omega)
      rw [this, Int32.add_sub_cancel]
    rw [e1, e2]
    show (bif decide (o.1 < 365) then _ else _) = some (Sum.inl (some (vi (bif decide (o.1 < 365) then nI (o.1 - x) else -1))), mm n J1 K1 P E c s)
    cases decide (o.1 < 365) <;> rfl
end PlanR
