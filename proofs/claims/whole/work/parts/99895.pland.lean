/-! PLAN, 4: the class's search by days. -/
section PlanD
variable {a d n t : Nat} {I J M : FI} {L K N : FL} {P : FR} {E : FE} {c s z : Nat}
def LOp (I : FI) (L : FL) (P : FR) (E : FE) (t c s n : Nat) (dd k : Nat) : Prop := ∀ w y (l : Int64) (p : Nat × Int32) (J : FI) (K : FL), w < zW I → y < 365 → p.1 ≤ 365 → Cw t I L J K → (k = 2 → J 177 0 3 = p.2) → ∃ (J' : FI) (K' : FL), V PR dd 87 0 [(0, vR (some (177, 0))), (1, vi (nI w)), (2, vi (nI y)), (3, vL l), (5, vi (nI (2 - k))), (6, vi (nI p.1))] [] (mm n J K P E c s) = some (.inl (some (vi (nI (oQ (toldB I) (vlG I (gvF I k) l w y) w p 0 6).1))), mm n J' K' P E c s) ∧ Cw t I L J' K' ∧ J' 177 0 3 = (bif decide (k = 2) then (oQ (toldB I) (vlG I (gvF I k) l w y) w p 0 6).2 else J 177 0 3)
theorem lo_loop (H : Cls t I L P E c) {k w y dd : Nat} (hk : k < 3) (hwW : w < zW I) (hy : y < 365) (DBk : DB I L P E t c s n (dd + 4) k) (l : Int64) : ∀ r q (p : Nat × Int32) (sn : Bool) (J : FI) (K : FL), q + r = 6 → p.1 ≤ 365 → (sn = true → p.1 ≤ gvF I k (plN I w) y l) → Cw t I L J K → (k = 2 → J 177 0 3 = p.2) → ∃ (J' : FI) (K' : FL), V PR (dd + 5) 87 10 [(0, vR (some (177, 0))), (1, vi (nI w)), (2, vi (nI y)), (3, vL l), (5, vi (nI (2 - k))), (7, vi (nI p.1)), (8, vi (b2i sn)), (9, vi (nI q))] [] (mm n J K P E c s) = some (.inl (some (vi (nI (oQ (toldB I) (vlG I (gvF I k) l w y) w p q r).1))), mm n J' K' P E c s) ∧ Cw t I L J' K' ∧ J' 177 0 3 = (bif decide (k = 2) then (oQ (toldB I) (vlG I (gvF I k) l w y) w p q r).2 else J 177 0 3)
  | 0, q, p, sn, J, K, hq, hp, hs, hw, h3 => by
    refine ⟨J, K, ?_, hw, ?_⟩
    · rw [k_X7_lastDayOver_10, show decide ((6 : Int32) ≤ nI q) = true from (nI_led (a := 6) (by decide) (by omega)).trans (decide_eq_true (by omega)), cond_true]
      rfl
    · by_cases e : k = 2
      · rw [decide_eq_true e]; exact h3 e
      · rw [decide_eq_false e]; rfl
  | r + 1, q, p, sn, J, K, hq, hp, hs, hw, h3 => by
    obtain ⟨J1, K1, sn1, r1, w1, a1, b1⟩ := lo_step (n := n) (s := s) H hk hwW hy (show q < 6 by omega) DBk l hp hs hw h3
    obtain ⟨J2, K2, r2, w2, a2⟩ := lo_loop H hk hwW hy DBk l r (q + 1) (stq (toldB I q) (vlG I (gvF I k) l w y q) (nI (10 * w + q)) p) sn1 J1 K1 (by omega) (Nat.le_trans (stq_le hp) hp) b1 w1 (fun e => by rw [a1, decide_eq_true e]; rfl)
    refine ⟨J2, K2, r1.trans r2, w2, a2.trans ?_⟩
    by_cases e : k = 2
    · rw [decide_eq_true e]; rfl
    · rw [decide_eq_false e]
      rw [decide_eq_false e] at a1
      exact a1
theorem c_LO (H : Cls t I L P E c) {k dd : Nat} (hk : k < 3) (DBk : DB I L P E t c s n (dd + 4) k) : LOp I L P E t c s n (dd + 5) k := fun w y l p J K hwW hy hp hw h3 => by
  obtain ⟨J', K', r1, r2⟩ := lo_loop (n := n) (s := s) H hk hwW hy DBk l 6 0 p false J K rfl hp (fun h => by cases h) hw h3
  refine ⟨J', K', ?_, r2⟩
  rw [k_X7_lastDayOver_0]
  exact r1
def LDp (I : FI) (L : FL) (P : FR) (E : FE) (t c s n : Nat) (dd k : Nat) : Prop := ∀ a x (l : Int64) (p : Nat × Int32) (J : FI) (K : FL), WyH I a → x < 365 → p.1 ≤ 365 → Cw t I L J K → (k = 2 → J 177 0 3 = p.2) → ∃ (J' : FI) (K' : FL), V PR dd 84 0 [(0, vR (some (177, 0))), (1, vi (nI a)), (2, vi (nI x)), (3, vL l), (5, vi (nI (2 - k))), (6, vi (nI p.1))] [] (mm n J K P E c s) = some (.inl (some (vi (nI (oW (okW I a x (decide (k < 2))) (toldB I) (fun w => vlG I (gvF I k) l w (dyN I a x (decide (k < 2)) w)) p 0 (zW I)).1))), mm n J' K' P E c s) ∧ Cw t I L J' K' ∧ J' 177 0 3 = (bif decide (k = 2) then (oW (okW I a x (decide (k < 2))) (toldB I) (fun w => vlG I (gvF I k) l w (dyN I a x (decide (k < 2)) w)) p 0 (zW I)).2 else J 177 0 3)
theorem ld_step (H : Cls t I L P E c) (W : WyH I a) {k x dd w : Nat} (hk : k < 3) (hx : x < 365) (hwW : w < zW I) (h0 : k = 0 → ∃ q, q < 6 ∧ toldB I q = true) (hLO : 0 < k → LOp I L P E t c s n (dd + 5) k) (l : Int64) {p : Nat × Int32} (hp : p.1 ≤ 365) (hw : Cw t I L J K) (h3 : k = 2 → J 177 0 3 = p.2) : ∃ (J' : FI) (K' : FL) (p' : Nat × Int32), V PR (dd + 6) 84 7 [(0, vR (some (177, 0))), (1, vi (nI a)), (2, vi (nI x)), (3, vL l), (5, vi (nI (2 - k))), (7, vi (nI p.1)), (8, vi (nI w))] [] (mm n J K P E c s) = V PR (dd + 6) 84 7 [(0, vR (some (177, 0))), (1, vi (nI a)), (2, vi (nI x)), (3, vL l), (5, vi (nI (2 - k))), (7, vi (nI p'.1)), (8, vi (nI (w + 1)))] [] (mm n J' K' P E c s) ∧ Cw t I L J' K' ∧ J' 177 0 3 = (bif decide (k = 2) then p'.2 else J 177 0 3) ∧ p'.1 = (bif okW I a x (decide (k < 2)) w then oQ (toldB I) (vlG I (gvF I k) l w (dyN I a x (decide (k < 2)) w)) w p 0 6 else p).1 ∧ (k = 2 → p' = (bif okW I a x (decide (k < 2)) w then oQ (toldB I) (vlG I (gvF I k) l w (dyN I a x (decide (k < 2)) w)) w p 0 6 else p)) := by
  obtain ⟨hT, hl, -, -, -, -, hc, -⟩ := id H
  have h6 := W.h6
  have h8 := W.h8
  have e9 : J 103 0 2 = nI (zW I) := (hw.1 103 0 2 (.inl rfl)).trans (hl.2.2.1.trans hT.2.2.1.1)
  have hno : ∀ (J1 : FI), J1 177 0 3 = J 177 0 3 → J1 177 0 3 = (bif decide (k = 2) then p.2 else J 177 0 3) := fun J1 e => by
    by_cases q2 : k = 2
    · rw [decide_eq_true q2, e, h3 q2]; rfl
    · rw [decide_eq_false q2, e]; rfl
  have eb : decide (0 < 2 - k) = decide (k < 2) := by rw [decide_eq_decide]; omega
  have hb : (bif okW I a x (decide (k < 2)) w then oQ (toldB I) (vlG I (gvF I k) l w (dyN I a x (decide (k < 2)) w)) w p 0 6 else p) = p → ∃ (J' : FI) (K' : FL) (p' : Nat × Int32), V PR (dd + 6) 84 7 [(0, vR (some (177, 0))), (1, vi (nI a)), (2, vi (nI x)), (3, vL l), (5, vi (nI (2 - k))), (7, vi (nI p.1)), (8, vi (nI (w + 1)))] [] (mm n J K P E c s) = V PR (dd + 6) 84 7 [(0, vR (some (177, 0))), (1, vi (nI a)), (2, vi (nI x)), (3, vL l), (5, vi (nI (2 - k))), (7, vi (nI p'.1)), (8, vi (nI (w + 1)))] [] (mm n J' K' P E c s) ∧ Cw t I L J' K' ∧ J' 177 0 3 = (bif decide (k = 2) then p'.2 else J 177 0 3) ∧ p'.1 = (bif okW I a x (decide (k < 2)) w then oQ (toldB I) (vlG I (gvF I k) l w (dyN I a x (decide (k < 2)) w)) w p 0 6 else p).1 ∧ (k = 2 → p' = (bif okW I a x (decide (k < 2)) w then oQ (toldB I) (vlG I (gvF I k) l w (dyN I a x (decide (k < 2)) w)) w p 0 6 else p)) := fun e => ⟨J, K, p, rfl, hw, hno J rfl, by rw [e], fun _ => e.symm⟩
  rw [k_X7_lastDay_7, e9, nI_led (by omega) (by omega), decide_eq_false (by omega), cond_false, c_comes W hw hwW hx (show 2 - k < 3 by omega) hc, Vk_v, eb, k_X7_lastDay_29, nI_1]
  cases hf : fOk I a (plN I w) with
  | false =>
    have : decide ((-1 : Int32) < nI x) = true := decide_eq_true (Int32.lt_iff_toInt_lt.mpr (by
      rw [nI_toInt (by omega)]
      have : (-1 : Int32).toInt = -1 := by decide +kernel
      omega))
    rw [cond_false, this, cond_true]
    refine hb ?_
    unfold okW
    rw [hf]
    rfl
  | true =>
    have F2 := (far_I W.hf W.ha (W.hP w hwW)).2
    obtain ⟨y, hyd⟩ : ∃ y, y = dyN I a x (decide (k < 2)) w := ⟨_, rfl⟩
    have hyx : x ≤ y := by rw [hyd]; exact dy_ge ..
    have hyl : y < 1000 := by
      rw [hyd]
      unfold dyN
      cases decide (k < 2) && decide (fN I a (plN I w) = 0) with
      | true => rw [cond_true]; omega
      | false => rw [cond_false]; omega
    rw [← hyd] at hb ⊢
    rw [cond_true, nI_ltd (by omega) (by omega), decide_eq_false (show ¬ y < x by omega), cond_false, nI_led (by omega) (by omega)]
    by_cases hpy : p.1 ≤ y
    · rw [decide_eq_true hpy, cond_true]
      refine hb ?_
      cases ho : okW I a x (decide (k < 2)) w with
      | false => rfl
      | true =>
        unfold okW at ho
        rw [Bool.and_eq_true, ← hyd] at ho
        have hy := of_decide_eq_true ho.2
        exact oQ_no (td := toldB I) (vl := vlG I (gvF I k) l w y) (w := w) (fun q => Nat.le_trans hpy (vl_ge hy)) 6 0
    · have hy : y < 365 := by omega
      have hok : okW I a x (decide (k < 2)) w = true := by
        unfold okW
        rw [hf, ← hyd, decide_eq_true hy]
        rfl
      have e3 : decide (nI (2 - k) + 1 < (3 : Int32)) = decide (0 < k) := by
        rw [nI_1, show (3 : Int32) = nI 3 from rfl, nI_ltd (by omega) (by omega), decide_eq_decide]
        omega
      rw [decide_eq_false hpy, cond_false, e3, hok, cond_true]
      by_cases hk0 : 0 < k
      · obtain ⟨J1, K1, r1, w1, a1⟩ := hLO hk0 w y l p J K hwW hy hp hw h3
        rw [decide_eq_true hk0, cond_true, r1, Vk_v, k_X7_lastDay_87, nI_1]
        exact ⟨J1, K1, _, rfl, w1, a1, rfl, fun _ => rfl⟩
      · have k0 : k = 0 := by omega
        subst k0
        obtain ⟨J1, K1, r1, w1, a1⟩ := c_tellsAll (d := dd) (n := n) (s := s) H hwW hy l hw
        have hlast := oQ_last (I := I) (w := w) (l := l) hy (h0 rfl) (show y < p.1 by omega) hp
        rw [decide_eq_false hk0, cond_false, r1, Vk_v, k_X7_lastDay_61, b2i_eq0, nI_1]
        cases hc2 : stB l (sL I 6 y) || !alB (fun q => !(toldB I q && agB l (sL I 6 y) (ywL I w q y))) 0 6 with
        | false =>
          rw [hc2] at hlast
          exact ⟨J1, K1, p, rfl, w1, by rw [a1]; rfl, hlast.symm, fun e => by cases e⟩
        | true =>
          rw [hc2] at hlast
          exact ⟨J1, K1, (y, p.2), rfl, w1, by rw [a1]; rfl, hlast.symm, fun e => by cases e⟩
theorem oW_fst {ok td : Nat → Bool} {vl : Nat → Nat → Nat} {p p' : Nat × Int32} {w r : Nat} (hp : p.1 ≤ 365) (h : p'.1 = p.1) : (oW ok td vl p' w r).1 = (oW ok td vl p w r).1 := by
  rw [oW_1 r w p hp, oW_1 r w p' (by omega), h]
theorem ld_loop (H : Cls t I L P E c) (W : WyH I a) {k x dd : Nat} (hk : k < 3) (hx : x < 365) (h0 : k = 0 → ∃ q, q < 6 ∧ toldB I q = true) (hLO : 0 < k → LOp I L P E t c s n (dd + 5) k) (l : Int64) : ∀ r w (p : Nat × Int32) (J : FI) (K : FL), w + r = zW I → p.1 ≤ 365 → Cw t I L J K → (k = 2 → J 177 0 3 = p.2) → ∃ (J' : FI) (K' : FL), V PR (dd + 6) 84 7 [(0, vR (some (177, 0))), (1, vi (nI a)), (2, vi (nI x)), (3, vL l), (5, vi (nI (2 - k))), (7, vi (nI p.1)), (8, vi (nI w))] [] (mm n J K P E c s) = some (.inl (some (vi (nI (oW (okW I a x (decide (k < 2))) (toldB I) (fun w => vlG I (gvF I k) l w (dyN I a x (decide (k < 2)) w)) p w r).1))), mm n J' K' P E c s) ∧ Cw t I L J' K' ∧ J' 177 0 3 = (bif decide (k = 2) then (oW (okW I a x (decide (k < 2))) (toldB I) (fun w => vlG I (gvF I k) l w (dyN I a x (decide (k < 2)) w)) p w r).2 else J 177 0 3)
  | 0, w, p, J, K, h, hp, hw, h3 => by
    obtain ⟨hT, hl, -, -, -, -, hc, -⟩ := id H
    have h6 := W.h6
    have e9 : J 103 0 2 = nI (zW I) := (hw.1 103 0 2 (.inl rfl)).trans (hl.2.2.1.trans hT.2.2.1.1)
    refine ⟨J, K, ?_, hw, ?_⟩
    · rw [k_X7_lastDay_7, e9, nI_led (by omega) (by omega), decide_eq_true (by omega), cond_true]
      rfl
    · by_cases e : k = 2
      · rw [decide_eq_true e]; exact h3 e
      · rw [decide_eq_false e]; rfl
  | r + 1, w, p, J, K, h, hp, hw, h3 => by
    obtain ⟨J1, K1, p1, r1, w1, a1, b1, b2⟩ := ld_step (n := n) (s := s) H W hk hx (show w < zW I by omega) h0 hLO l hp hw h3
    obtain ⟨p2, hp2⟩ : ∃ p2, p2 = (bif okW I a x (decide (k < 2)) w then oQ (toldB I) (vlG I (gvF I k) l w (dyN I a x (decide (k < 2)) w)) w p 0 6 else p) := ⟨_, rfl⟩
    have hle : p2.1 ≤ 365 := by
      rw [hp2]
      cases okW I a x (decide (k < 2)) w with
      | false => exact hp
      | true => rw [cond_true, oQ_1]; exact Nat.le_trans mnF_le hp
    rw [← hp2] at b1 b2
    have hS : oW (okW I a x (decide (k < 2))) (toldB I) (fun w => vlG I (gvF I k) l w (dyN I a x (decide (k < 2)) w)) p w (r + 1) = oW (okW I a x (decide (k < 2))) (toldB I) (fun w => vlG I (gvF I k) l w (dyN I a x (decide (k < 2)) w)) p2 (w + 1) r := by rw [hp2]; rfl
    obtain ⟨J2, K2, r2, w2, a2⟩ := ld_loop H W hk hx h0 hLO l r (w + 1) p1 J1 K1 (by omega) (by omega) w1 (fun e => by rw [a1, decide_eq_true e]; rfl)
    rw [hS]
    refine ⟨J2, K2, ?_, w2, a2.trans ?_⟩
    · rw [r1, r2, oW_fst hle b1]
    · by_cases e : k = 2
      · rw [decide_eq_true e, b2 e]; rfl
      · rw [decide_eq_false e]
        rw [decide_eq_false e] at a1
        exact a1
theorem c_LD (H : Cls t I L P E c) {k dd : Nat} (hk : k < 3) (h0 : k = 0 → ∃ q, q < 6 ∧ toldB I q = true) (hLO : 0 < k → LOp I L P E t c s n (dd + 5) k) : LDp I L P E t c s n (dd + 6) k := fun a x l p J K W hx hp hw h3 => by
  obtain ⟨J', K', r1, r2⟩ := ld_loop (n := n) (s := s) H W hk hx h0 hLO l (zW I) 0 p J K (Nat.zero_add _) hp hw h3
  refine ⟨J', K', ?_, r2⟩
  rw [k_X7_lastDay_0]
  exact r1
/-- behind one asking, by the search with one less -/
theorem c_DB (H : Cls t I L P E c) (hW : RWell I) (hF : RFar I) {k dd : Nat} (hk : k < 2) (hLD : LDp I L P E t c s n (dd + 3) k) : DB I L P E t c s n (dd + 4) (k + 1) := fun w y v l J K hwW hy hv hw => by
  obtain ⟨hT, hl, -, -, -, -, hc, -⟩ := id H
  have h6 := hT.2.2.1.2
  obtain ⟨J0, K0, r0, d0⟩ := x_soOn (d := dd) (n := n) (s := s) H hw (show 6 < 7 by decide) hy
  have a0 : J0 177 0 3 = J 177 0 3 := d0.1 177 0 3 (by decide) (by decide) (by decide)
  have r0' : V PR (dd + 3) 10 0 [(0, vR (some (135, 0))), (1, vi (6 : Int32)), (2, vi (nI y))] [] (mm n J K P E c s) = some (.inl (some (vL (sL I 6 y))), mm n J0 K0 P E c s) := r0
  have w0 := hw.tr d0
  cases hst : stB l (sL I 6 y) with
  | true =>
    refine ⟨J0, K0, y, ?_, w0, a0, by omega, fun _ => (gv_st hst).symm, fun h => ?_⟩
    · rw [k_X7_dayBehind_0, r0', Vk_v, k_X7_dayBehind_11, c_settled, Vk_v, hst, k_X7_dayBehind_14, b2i_eq0]
      rfl
    · rw [show gvF I (k + 1) (plN I w) y l = y from gv_st hst]
      omega
  | false =>
    have hp := (pl_I hT hW hwW).2.1
    have W : WyH I (plN I w) := ⟨hT, hW, hF, hp⟩
    have e105 : J0 105 0 w = nI (plN I w) := (w0.1 105 0 w (.inl rfl)).trans (pl_I hT hW hwW).2.2
    obtain ⟨J1, K1, r1, w1, a1⟩ := hLD (plN I w) y l (v, 0) J0 K0 W hy hv w0 (fun e => by omega)
    rw [decide_eq_false (show ¬ k = 2 by omega)] at a1
    have ek : nI (2 - (k + 1)) + 1 = nI (2 - k) := by rw [nI_1, show 2 - (k + 1) + 1 = 2 - k by omega]
    rw [decide_eq_true hk, oW_1 _ _ _ hv] at r1
    obtain ⟨m1, m2⟩ := mnF_lim (p := okW I (plN I w) y true) (g := fun w' => mnF (toldB I) (vlG I (gvF I k) l w' (dyN I (plN I w) y true w')) 365 0 6) (w := 0) (r := zW I) hv
    have hg : gvF I (k + 1) (plN I w) y l = mnF (okW I (plN I w) y true) (fun w' => mnF (toldB I) (vlG I (gvF I k) l w' (dyN I (plN I w) y true w')) 365 0 6) 365 0 (zW I) := gv_no hst
    rw [← hg] at m1 m2
    refine ⟨J1, K1, _, ?_, w1, a1.trans a0, Nat.le_trans mnF_le hv, m1, m2⟩
    rw [k_X7_dayBehind_0, r0', Vk_v, k_X7_dayBehind_11, c_settled, Vk_v, hst, k_X7_dayBehind_14, b2i_eq0, Bool.not_false, cond_true, inb_nI (show w < 6 by omega) (by decide), cond_true, nI_clamp (by omega), e105, ek, r1, Vk_v, k_X7_dayBehind_40]
end PlanD
