/-! PROMISES 10, 12, 13, 14: lies, states, knows, says. -/
theorem Off.kc {I J : FI} (h : Off I J) : Kc I J := fun a r j hk => h a r j fun e => by subst e; cases hk
section Asks
variable {d n t : Nat} {I J M : FI} {L K : FL} {P : FR} {E : FE} {c s : Nat}
theorem Off.rfl' : Off I I := fun _ _ _ _ => rfl
theorem kp0 (h : Dof I J) : Kp c I (up3 J 186 0 0 0) := h.kp.up rfl
/-- the end of a call: days opened, the reference's pile used, nothing else -/
theorem Rl.fin (h : Rl t I L P E c s) (hd : Dy t I L J K) (ho : Off (up3 J 186 0 0 0) M) (lv : Int64) : Rl (t + 1) M (up3 K 486 0 0 lv) P E c s ∧ M 186 0 0 = 0 ∧ (up3 K 486 0 0 lv) 486 0 0 = lv ∧ ∀ j, J 0 0 j = I 0 0 j := by
  have hr : RRef I := h.2.2.2.2.2.2.2.2.2.2.2.1
  refine ⟨h.days hd (Kp.tr (Kp.rfl'.up rfl) ho.kp (Nat.le_refl _)) (Kp.rfl'.up rfl) (fun a r j hk => (ho.kc a r j hk).trans (Kc.up Kc.rfl' rfl a r j hk)) (Kc.rfl'.up rfl) ?_, ?_, up3_i _ _ _ _ _, fun j => hd.1 0 0 j (by decide) (by decide) (by decide)⟩
  · unfold RRef
    rw [ho 100 0 17 (by decide), ho 100 0 18 (by decide), ho 188 0 0 (by decide), ho 188 0 1 (by decide), up3_a (by decide), up3_a (by decide), up3_a (by decide), up3_a (by decide), hd.1 100 0 17 (by decide) (by decide) (by decide), hd.1 100 0 18 (by decide) (by decide) (by decide), hd.1 188 0 0 (by decide) (by decide) (by decide), hd.1 188 0 1 (by decide) (by decide) (by decide)]
    exact hr
  · rw [ho 186 0 0 (by decide)]
    exact thr0 J
theorem g_lies (h : Rl t I L P E c s) (hn : 6 * t + 6 ≤ n) (hN : n ≤ 3072) : LGo (d + 30) n t 8 I L P E c s := by
  refine en_8 h hn hN fun w x st hw' hx hst ew ex es h1 h2 h3 => ?_
  obtain ⟨hT, hl, hw, hv, hb, hP, hc, ht⟩ := h.cls (by omega)
  have h64 : 2 ^ zB I ≤ 2 ^ 6 := Nat.pow_le_pow_right (by decide) (zB_le hT)
  obtain ⟨J, K, r1, r2, -⟩ := c_lieOn (d := d + 25) (n := n) (P := P) (E := E) (c := c) (s := s) hT hl hw hv hb hc ht hw' hx h.dy0
  have k := kp0 (c := c) r2.1
  have eW : zW (up3 J 186 0 0 0) = zW I := (kz k hc).2.2.1
  have eV : zV (up3 J 186 0 0 0) = zV I := (kz k hc).2.2.2.1
  obtain ⟨f1, f2, f3, f4⟩ := h.fin r2 Off.rfl' (b2l (lieB I w x st (zV I)))
  have hT2 := hT.keep k hc
  have e0 : ∀ {q : Bool} {z : Int32}, inR z 0 (I 190 0 2 - 1) = q → inR z 0 (J 190 0 2 - 1) = q := fun h9 => by rw [r2.1 190 0 2 (by decide) (by decide) (by decide)]; exact h9
  have hTJ : RTold J := hT.keep r2.1.kp hc
  have A : V PR (d + 28) 138 0 [(0, (vR (some (100, 0)))), (1, (vi (sc I t 1))), (2, (vi (sc I t 2))), (3, (vi (sc I t 3)))] [] (mm n I L P E c s) = some (.inl (some (vi (b2i (lieB I w x st (zV I))))), mm n J K P E c s) := by
    refine (cp_8 (d := d + 26) hT hl h1 h2 h3).trans ?_
    have e : tb (lL I w x) st = lieB I w x st (zV I) := by rw [tb_lL hT, decide_eq_true hst]; rfl
    simp only [ew, ex, es, k_X11_lies_15, r1, Vk_v, Nat.reduceAdd, k_X11_lies_24, c_holds (show st < 64 by omega), k_X11_lies_28, b2i_bit, cond_true, e]
  have B : V PR (d + 29) 258 0 [(0, (vR (some (186, 0)))), (1, (vi (sc I t 1))), (2, (vi (sc I t 2))), (3, (vi (sc I t 3)))] [] (mm n J (up3 K 486 0 0 (b2l (lieB I w x st (zV I)))) P E c s) = some (.inl (some (vi (b2i (lieB I w x st (zV I))))), mm n (up3 J 186 0 0 0) (up3 K 486 0 0 (b2l (lieB I w x st (zV I)))) P E c s) := by
    refine (rp_8 (d := d + 26) hTJ (e0 h1) h2 ?_).trans ?_
    · rw [r2.1 190 0 0 (by decide) (by decide) (by decide), r2.1 190 0 3 (by decide) (by decide) (by decide)]
      exact h3
    · simp only [ew, ex, es, k_X12_lies_53, d0t, decide_true, cond_true, c_liesOn hT2 (hw.keep k hc) (hv.keep k hc) (show w < zW (up3 J 186 0 0 0) by omega) hx (show st < 64 by omega), Vk_v, Nat.reduceAdd, k_X12_lies_65, b2i_bit, eV, lieB_k k hc]
  exact ⟨_, _, P, E, c, s, ok_8 (d := d + 28) _ hn hN f4 h.1.1 h.1.1 A B f2 f3, f1⟩
theorem g_states (h : Rl t I L P E c s) (hn : 6 * t + 6 ≤ n) (hN : n ≤ 3072) : LGo (d + 30) n t 10 I L P E c s := by
  refine en_10 h hn hN fun q x hq hx eq ex h1 h2 => ?_
  have H := h.cls (by omega)
  obtain ⟨hT, hl, hw, hv, hb, hP, hc, ht⟩ := id H
  obtain ⟨J, K, r1, r2⟩ := c_soOn (d := d + 24) (n := n) (s := s) H (show q < 7 by omega) hx h.dy0
  have k := kp0 (c := c) r2.1
  have hT2 := hT.keep k hc
  have hQ : QOk (up3 J 186 0 0 0) q := (hP.keep k Kp.rfl' (fun _ _ => rfl) hc (Nat.le_refl _)).q (by omega)
  obtain ⟨M, m1, m2⟩ := c_statesBy (d := d + 24) (n := n) (L := up3 K 486 0 0 (sL I q x)) (P := P) (E := E) (c := c) (s := s) hT2 (hw.keep k hc) (hv.keep k hc) hc (show q < 7 by omega) hQ hx Off.rfl'
  rw [sL_k k hc] at m2
  obtain ⟨f1, f2, f3, f4⟩ := h.fin r2 m1 (sL I q x)
  have hTJ : RTold J := hT.keep r2.1.kp hc
  have A : V PR (d + 28) 140 0 [(0, (vR (some (100, 0)))), (1, (vi (sc I t 1))), (2, (vi (sc I t 2)))] [] (mm n I L P E c s) = some (.inl (some (vL (sL I q x))), mm n J K P E c s) := by
    refine (cp_10 (d := d + 26) hT hl h1 h2).trans ?_
    simp only [eq, ex, k_X11_states_10, r1, Vk_v, Nat.reduceAdd, k_X11_states_19]
  have B : V PR (d + 29) 261 0 [(0, (vR (some (186, 0)))), (1, (vi (sc I t 1))), (2, (vi (sc I t 2)))] [] (mm n J (up3 K 486 0 0 (sL I q x)) P E c s) = some (.inl (some (vL (sL I q x))), mm n M (up3 K 486 0 0 (sL I q x)) P E c s) := by
    refine (rp_10 (d := d + 26) hTJ h1 h2).trans ?_
    simp only [eq, ex, k_X12_states_30, d0t, decide_true, cond_true, m2, Vk_v, Nat.reduceAdd, k_X12_states_41]
  exact ⟨_, _, P, E, c, s, ok_10 (d := d + 28) _ hn hN f4 h.1.1 h.1.1 A B f2 f3, f1⟩
theorem g_knows (h : Rl t I L P E c s) (hn : 6 * t + 6 ≤ n) (hN : n ≤ 3072) : LGo (d + 30) n t 11 I L P E c s := by
  refine en_11 h hn hN fun w q hw' hq ew eq h1 h2 => ?_
  have H := h.cls (by omega)
  obtain ⟨hT, hl, hw, hv, hb, hP, hc, ht⟩ := id H
  have h6 : w < 6 := by have := hT.2.2.1.2; omega
  have ekn : knB (up3 I 186 0 0 0) w q = knB I w q := rfl
  refine go_11 (d := d + 28) (knB I w q) h hn hN ((cp_11 hT hl h1 h2).trans ?_) ((rp_11 (I := I) hT h1 h2).trans ?_)
  · simp only [ew, eq, k_X11_knows_10, c_masters H hw' (show q < 7 by omega) (K := L) Dof.rfl', Vk_v, Nat.reduceAdd, k_X11_knows_19, b2i_bit, cond_true]
  · simp only [ew, eq, k_X12_knows_45, d0t, decide_true, cond_true, c_isKnownTo h6 (show q < 7 by omega), Vk_v, Nat.reduceAdd, k_X12_knows_56, b2i_bit, ekn]
theorem g_says (h : Rl t I L P E c s) (hn : 6 * t + 6 ≤ n) (hN : n ≤ 3072) : LGo (d + 30) n t 12 I L P E c s := by
  refine en_12 h hn hN fun w q x st hw' hq hx hst ew eq ex es h1 h2 h3 h4 => ?_
  have H := h.cls (by omega)
  obtain ⟨hT, hl, hw, hv, hb, hP, hc, ht⟩ := id H
  have h64 : 2 ^ zB I ≤ 2 ^ 6 := Nat.pow_le_pow_right (by decide) (zB_le hT)
  obtain ⟨J, K, r1, r2⟩ := c_answerC (d := d + 22) (n := n) (s := s) H hw' (show q < 7 by omega) hx hst h.dy0
  have k := kp0 (c := c) r2.1
  have eW : zW (up3 J 186 0 0 0) = zW I := (kz k hc).2.2.1
  have eV : zV (up3 J 186 0 0 0) = zV I := (kz k hc).2.2.2.1
  have hQ : QOk (up3 J 186 0 0 0) q := (hP.keep k Kp.rfl' (fun _ _ => rfl) hc (Nat.le_refl _)).q (by omega)
  obtain ⟨M, m1, m2⟩ := c_answer (d := d + 24) (n := n) (L := up3 K 486 0 0 ((ansV I w q x st).toInt64)) (P := P) (E := E) (c := c) (s := s) (hT.keep k hc) (hw.keep k hc) (hv.keep k hc) hc (show w < zW (up3 J 186 0 0 0) by omega) (show q < 7 by omega) hQ hx (show st < 64 by omega) Off.rfl'
  have ea : ansV (up3 J 186 0 0 0) w q x st = ansV I w q x st := by
    unfold ansV
    rw [silB_k k hc, soB_k k hc, eV, lieB_k k hc]
    unfold knB
    simp only [k.at hc (a := 229) (by decide) (fun _ => rfl), k.at hc (a := 198) (by decide) (fun _ => rfl)]
  rw [ea] at m2
  obtain ⟨f1, f2, f3, f4⟩ := h.fin r2 m1 ((ansV I w q x st).toInt64)
  have hTJ : RTold J := hT.keep r2.1.kp hc
  have e0 : ∀ {b : Bool} {z : Int32}, inR z 0 (I 190 0 2 - 1) = b → inR z 0 (J 190 0 2 - 1) = b := fun h9 => by rw [r2.1 190 0 2 (by decide) (by decide) (by decide)]; exact h9
  have A : V PR (d + 28) 142 0 [(0, (vR (some (100, 0)))), (1, (vi (sc I t 1))), (2, (vi (sc I t 2))), (3, (vi (sc I t 3))), (4, (vi (sc I t 4)))] [] (mm n I L P E c s) = some (.inl (some (vi (ansV I w q x st))), mm n J K P E c s) := by
    refine (cp_12 (d := d + 26) hT hl h1 h2 h3 h4).trans ?_
    simp only [ew, eq, ex, es, k_X11_says_21, r1, Vk_v, Nat.reduceAdd, k_X11_says_33]
  have B : V PR (d + 29) 263 0 [(0, (vR (some (186, 0)))), (1, (vi (sc I t 1))), (2, (vi (sc I t 2))), (3, (vi (sc I t 3))), (4, (vi (sc I t 4)))] [] (mm n J (up3 K 486 0 0 ((ansV I w q x st).toInt64)) P E c s) = some (.inl (some (vi (ansV I w q x st))), mm n M (up3 K 486 0 0 ((ansV I w q x st).toInt64)) P E c s) := by
    refine (rp_12 (d := d + 26) hTJ (e0 h1) h2 h3 ?_).trans ?_
    · rw [r2.1 190 0 0 (by decide) (by decide) (by decide), r2.1 190 0 3 (by decide) (by decide) (by decide)]
      exact h4
    · simp only [ew, eq, ex, es, k_X12_says_61, d0t, decide_true, cond_true, m2, Vk_v, Nat.reduceAdd, k_X12_says_75]
  exact ⟨_, _, P, E, c, s, ok_12 (d := d + 28) _ hn hN f4 h.1.1 h.1.1 A B f2 f3, f1⟩
end Asks
