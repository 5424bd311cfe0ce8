/-! THE CLASS'S DAYS, 5: what a well says; lies, states, knows, says (promises 10, 12, 13, 14). -/
theorem tb_sL {I : FI} (hT : RTold I) (q x st : Nat) : tb (sL I q x) st = (decide (st < 2 ^ zB I) && soB I q x st) := by
  have : 2 ^ zB I ≤ 2 ^ 6 := Nat.pow_le_pow_right (by decide) (zB_le hT)
  exact tb_mk _ _ _ (by omega)
theorem tb_lL {I : FI} (hT : RTold I) (w x st : Nat) : tb (lL I w x) st = (decide (st < 2 ^ zB I) && lieB I w x st (zV I)) := by
  have : 2 ^ zB I ≤ 2 ^ 6 := Nat.pow_le_pow_right (by decide) (zB_le hT)
  exact tb_mk _ _ _ (by omega)
theorem tb_say {I : FI} (hT : RTold I) (w q x st : Nat) (what : Int32) : tb (sayL I w q x what) st = (decide (st < 2 ^ zB I) && decide (ansV I w q x st = what)) := by
  have : 2 ^ zB I ≤ 2 ^ 6 := Nat.pow_le_pow_right (by decide) (zB_le hT)
  exact tb_mk _ _ _ (by omega)
section Says
variable {d n t : Nat} {I : FI} {L : FL} {P : FR} {E : FE} {c s : Nat}
theorem c_answers (H : Cls t I L P E c) {w q x : Nat} (hk : w < zW I) (hq : q < 7) (hx : x < 365) {J : FI} {K : FL} (hJ : Dof I J) (hK : DofL L K) : V PR (d + 2) 18 0 [(0, vR (some (135, 0))), (1, vi (nI w)), (2, vi (nI q)), (3, vi (nI x))] [] (mm n J K P E c s) = some (.inl (some (vi (b2i (knB I w q && !silB I w (nI x))))), mm n J K P E c s) := by
  obtain ⟨hT, hl, hw, hv, hb, hP, hc, ht⟩ := id H
  have h6 : w < 6 := by have := hT.2.2.1.2; omega
  have k1 : Kp c I J := hJ.kp
  have eW : zW J = zW I := (kz k1 hc).2.2.1
  have hs : husB J w (nI x) = silB I w (nI x) := by
    rw [hus_sil (hw.keep k1 hc) (hl.keep k1 hK.kp hc) (show w < zW J by omega) hx (hT.keep k1 hc), silB_k k1 hc]
  simp only [k_X0_answers_0, c_masters (P := P) (E := E) (c := c) H hk hq hJ, Vk_v, Nat.reduceAdd, k_X0_answers_6, b2i_eq0, c_hushed h6, k_X0_answers_18, hs, b2i_ne0]
  cases knB I w q <;> cases silB I w (nI x) <;> rfl
theorem c_yesOn (H : Cls t I L P E c) {w q x : Nat} (hk : w < zW I) (hq : q < 7) (hx : x < 365) {J : FI} {K : FL} (h : Dy t I L J K) : ∃ (J' : FI) (K' : FL), V PR (d + 4) 19 0 [(0, vR (some (135, 0))), (1, vi (nI w)), (2, vi (nI q)), (3, vi (nI x))] [] (mm n J K P E c s) = some (.inl (some (vL (sL I q x ^^^ lL I w x))), mm n J' K' P E c s) ∧ Dy t I L J' K' := by
  obtain ⟨hT, hl, hw, hv, hb, hP, hc, ht⟩ := id H
  obtain ⟨J1, K1, r1, r2⟩ := c_soOn (d := d) (n := n) (s := s) H hq hx h
  obtain ⟨J2, K2, g1, g2, -⟩ := c_lieOn (d := d + 1) (n := n) (P := P) (E := E) (c := c) (s := s) hT hl hw hv hb hc ht hk hx r2
  exact ⟨J2, K2, by simp only [k_X0_yesOn_0, r1, Vk_v, Nat.reduceAdd, k_X0_yesOn_6, g1, k_X0_yesOn_12], g2⟩
theorem c_answerC (H : Cls t I L P E c) {w q x st : Nat} (hk : w < zW I) (hq : q < 7) (hx : x < 365) (hst : st < 2 ^ zB I) {J : FI} {K : FL} (h : Dy t I L J K) : ∃ (J' : FI) (K' : FL), V PR (d + 5) 21 0 [(0, vR (some (135, 0))), (1, vi (nI w)), (2, vi (nI q)), (3, vi (nI x)), (4, vi (nI st))] [] (mm n J K P E c s) = some (.inl (some (vi (ansV I w q x st))), mm n J' K' P E c s) ∧ Dy t I L J' K' := by
  obtain ⟨hT, hl, hw, hv, hb, hP, hc, ht⟩ := id H
  have h64 : 2 ^ zB I ≤ 2 ^ 6 := Nat.pow_le_pow_right (by decide) (zB_le hT)
  have ha := c_answers (d := d + 2) (n := n) (s := s) H hk hq hx h.1 h.2.1
  unfold ansV
  rw [k_X0_answer_0, ha, Vk_v, k_X0_answer_7, b2i_ne0]
  cases hs : silB I w (nI x) with
  | true => exact ⟨J, K, by rw [Bool.not_true, Bool.and_false]; rfl, h⟩
  | false =>
    cases hkn : knB I w q with
    | false => exact ⟨J, K, rfl, h⟩
    | true =>
      obtain ⟨J1, K1, r1, r2⟩ := c_yesOn (d := d) (n := n) (s := s) H hk hq hx h
      refine ⟨J1, K1, ?_, r2⟩
      have e : tb (sL I q x ^^^ lL I w x) st = (soB I q x st != lieB I w x st (zV I)) := by
        rw [tb_xor, tb_sL hT, tb_lL hT, decide_eq_true hst]; rfl
      simp only [Bool.not_false, Bool.and_true, cond_true, r1, Vk_v, Nat.reduceAdd, k_X0_answer_19, c_holds (show st < 64 by omega), k_X0_answer_24, b2i_eq0, e]
      cases (soB I q x st != lieB I w x st (zV I)) <;> rfl
theorem c_saying (H : Cls t I L P E c) {w q x : Nat} (hk : w < zW I) (hq : q < 7) (hx : x < 365) {v : Nat} (hv3 : v < 3) {J : FI} {K : FL} (h : Dy t I L J K) : ∃ (J' : FI) (K' : FL), V PR (d + 5) 20 0 [(0, vR (some (135, 0))), (1, vi (nI w)), (2, vi (nI q)), (3, vi (nI x)), (4, vi (nI v))] [] (mm n J K P E c s) = some (.inl (some (vL (sayL I w q x (nI v)))), mm n J' K' P E c s) ∧ Dy t I L J' K' := by
  obtain ⟨hT, hl, hw, hv, hb, hP, hc, ht⟩ := id H
  have h64 : 2 ^ zB I ≤ 2 ^ 6 := Nat.pow_le_pow_right (by decide) (zB_le hT)
  have hall : K 103 0 5 = allL (zB I) := (h.2.1 103 0 5 (by decide) (by decide) (by decide)).trans hl.2.2.2.2.2.1
  have ha := c_answers (d := d + 2) (n := n) (s := s) H hk hq hx h.1 h.2.1
  rw [k_X0_saying_0, ha, Vk_v, k_X0_saying_7, b2i_ne0]
  cases hb2 : (knB I w q && !silB I w (nI x)) with
  | false =>
    rw [cond_false]
    have hans : ∀ st, ansV I w q x st = 2 := fun st => by
      unfold ansV
      cases h1 : silB I w (nI x) with
      | true => rfl
      | false =>
        cases h2 : knB I w q with
        | false => rfl
        | true => rw [h1, h2] at hb2; cases hb2
    by_cases hv2 : v = 2
    · subst hv2
      refine ⟨J, K, ?_, h⟩
      have e : sayL I w q x (nI 2) = allL (zB I) := tb_ext fun st hs => by
        rw [tb_say hT, hans, tb_all (zB_le hT), show decide ((2 : Int32) = nI 2) = true from by decide +kernel, Bool.and_true]
      rw [show (!decide (nI 2 = (2 : Int32))) = false from by decide +kernel, cond_false, hall, e]
    · refine ⟨J, K, ?_, h⟩
      have e0 : ¬ nI v = (2 : Int32) := fun q => hv2 ((nI_eq (b := 2) (by omega) (by omega)).mp q)
      have e : sayL I w q x (nI v) = 0 := tb_ext fun st hs => by
        rw [tb_say hT, hans, tb_0, show decide ((2 : Int32) = nI v) = false from decide_eq_false (fun q => e0 q.symm), Bool.and_false]
      rw [decide_eq_false e0, Bool.not_false, cond_true, e]
  | true =>
    rw [cond_true]
    have h1 : silB I w (nI x) = false := by
      cases h1 : silB I w (nI x) with
      | false => rfl
      | true => rw [h1, Bool.not_true, Bool.and_false] at hb2; cases hb2
    have h2 : knB I w q = true := by
      cases h2 : knB I w q with
      | true => rfl
      | false => rw [h2] at hb2; cases hb2
    have hans : ∀ st, ansV I w q x st = b2i (soB I q x st != lieB I w x st (zV I)) := fun st => by
      unfold ansV
      rw [h1, h2]
      rfl
    by_cases hv2 : v = 2
    · subst hv2
      refine ⟨J, K, ?_, h⟩
      have e : sayL I w q x (nI 2) = 0 := tb_ext fun st hs => by
        rw [tb_say hT, hans, tb_0, show ∀ b : Bool, decide (b2i b = nI 2) = false from by decide +kernel, Bool.and_false]
      rw [show (!decide (nI 2 = (2 : Int32))) = false from by decide +kernel, cond_false, e]
    · have e0 : ¬ nI v = (2 : Int32) := fun q => hv2 ((nI_eq (b := 2) (by omega) (by omega)).mp q)
      obtain ⟨J1, K1, r1, r2⟩ := c_yesOn (d := d) (n := n) (s := s) H hk hq hx h
      have hall1 : K1 103 0 5 = allL (zB I) := (r2.2.1 103 0 5 (by decide) (by decide) (by decide)).trans hl.2.2.2.2.2.1
      refine ⟨J1, K1, ?_, r2⟩
      rw [decide_eq_false e0, Bool.not_false, cond_true, r1, Vk_v, k_X0_saying_43, hall1]
      rcases (show v = 0 ∨ v = 1 by omega) with rfl | rfl
      · have e : sayL I w q x (nI 0) = allL (zB I) &&& ((sL I q x ^^^ lL I w x) ^^^ (-1)) := tb_ext fun st hs => by
          rw [tb_say hT, hans, tb_and, not_x hs, tb_all (zB_le hT), tb_xor, tb_sL hT, tb_lL hT, show ∀ b : Bool, decide (b2i b = nI 0) = !b from by decide +kernel]
          cases decide (st < 2 ^ zB I) <;> rfl
        rw [show (!decide (nI 0 = (1 : Int32))) = true from by decide +kernel, cond_true, e]
      · have e : sayL I w q x (nI 1) = sL I q x ^^^ lL I w x := tb_ext fun st hs => by
          rw [tb_say hT, hans, tb_xor, tb_sL hT, tb_lL hT, show ∀ b : Bool, decide (b2i b = nI 1) = b from by decide +kernel]
          cases decide (st < 2 ^ zB I) <;> rfl
        rw [show (!decide (nI 1 = (1 : Int32))) = false from by decide +kernel, cond_false, e]
/-- what a call needs, out of the relation -/
theorem Rl.cls (h : Rl t I L P E c s) (ht : t ≤ 600) : Cls t I L P E c := ⟨h.2.1, h.2.2.1, h.2.2.2.1, h.2.2.2.2.1, h.2.2.2.2.2.2.2.2.2.2.2.2.2.2.1, h.2.2.2.2.2.2.2.2.2.2.2.2.1, h.1.2.1, ht⟩
theorem Rl.dy0 (h : Rl t I L P E c s) : Dy t I L I L := ⟨Dof.rfl', DofL.rfl', h.2.2.2.2.2.2.2.2.2.2.2.2.2.2.2.1⟩
/-- days opened, and then what is told on the side -/
theorem Rl.days (h : Rl t I L P E c s) {J : FI} {K : FL} (hd : Dy t I L J K) {I' : FI} {L' : FL} (k : Kp c J I') (kl : Kp c K L') (q : Kc J I') (ql : Kc K L') (hr : RRef I') : Rl (t + 1) I' L' P E c s := by
  obtain ⟨⟨a1, a2, a3, a4⟩, h1, h2, h3, h4, h5, h6, h7, h8, h9, h10, h11, h12, h13, h14, h15, h16⟩ := h
  obtain ⟨d1, d2, d3⟩ := hd
  have k1 : Kp c I I' := Kp.tr d1.kp k (Nat.le_refl _)
  have k2 : Kp c L L' := Kp.tr d2.kp kl (Nat.le_refl _)
  have hs : RStm t J := by
    obtain ⟨m, s1, s2, s3, s4⟩ := h16
    refine ⟨m, s1, by rw [d1 186 0 40 (by decide) (by decide) (by decide)]; exact s2, fun k x hk hx => ?_, fun x hx => ?_⟩
    · rw [d1 377 _ _ (by decide) (by decide) (by decide)]; exact s3 k x hk hx
    · rw [d1 414 _ _ (by decide) (by decide) (by decide)]; exact s4 x hx
  exact ⟨⟨a1, a2, by omega, by omega⟩, h1.keep k1 a2, h2.keep k1 k2 a2, h3.keep k1 a2, h4.keep k1 a2, h5.keep k1 a2, h6.keep k1 k2 a2, h7.keep k1 k2 a2, h8.keep k1 a2, h9.keep k1 a2, h10.keep k1 a2, hr, h12.keep k1 Kp.rfl' (fun _ _ => rfl) a2 (Nat.le_refl _), h13.keep k1 k2 Kp.rfl' (fun _ _ => rfl) a2 (Nat.le_refl _), h14.keep k2 a2, d3.keep k a2 q ql, hs.keep q⟩
end Says
