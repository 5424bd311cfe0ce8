/-! PROMISE 46: agree. -/
section Agree
variable {d n t : Nat} {I J : FI} {L K : FL} {P : FR} {E : FE} {c s : Nat}
/-- days on which two answers are one, from a day on -/
def agV (f g : Nat → Int32) : Nat → Nat → Nat → Int32
  | _, m, 0 => nI m
  | e, m, r + 1 => bif (!decide (f e = 2)) && decide (f e = g e) then agV f g (e + 1) (m + 1) r else agV f g (e + 1) m r
theorem add0_32 (a : Int32) : a + 0 = a := by
  apply Int32.toBitVec_inj.mp
  rw [Int32.toBitVec_add]
  exact BitVec.add_zero _
theorem agree_C (H : Cls t I L P E c) {w u q : Nat} (hk : w < zW I) (hu : u < zW I) (hq : q < 7) : ∀ r e m (J : FI) (K : FL), e + r = 365 → Dy t I L J K → ∃ (J' : FI) (K' : FL), V PR (d + 6) 186 21 [(0, vR (some (100, 0))), (1, vi (nI w)), (2, vi (nI u)), (3, vi (nI q)), (4, vi (nI m)), (5, vi (nI e))] [] (mm n J K P E c s) = some (.inl (some (vi (agV (fun e => ansV I w q e (zS I)) (fun e => ansV I u q e (zS I)) e m r))), mm n J' K' P E c s) ∧ Dy t I L J' K'
  | 0, e, m, J, K, he, hd => by
    refine ⟨J, K, ?_, hd⟩
    rw [k_X11_agree_21, show decide ((365 : Int32) ≤ nI e) = true from decide_eq_true (nI_le (a := 365) (by omega) (by omega)), cond_true]
    rfl
  | r + 1, e, m, J, K, he, hd => by
    have H2 := H
    obtain ⟨hT, hl, hw, hv, hb, hP, hc, ht⟩ := H2
    have hs : ∀ {J : FI}, Dof I J → J 127 0 0 = nI (zS I) := fun {J} h => (h 127 0 0 (by decide) (by decide) (by decide)).trans (hl.2.2.2.2.2.2.1.trans hT.2.2.2.2.1.1)
    have hz := hT.2.2.2.2.1.2
    obtain ⟨J1, K1, r1, d1⟩ := c_answerC (d := d) (n := n) (s := s) H hk hq (x := e) (by omega) hz hd
    rw [k_X11_agree_21, show decide ((365 : Int32) ≤ nI e) = false from decide_eq_false (nI_ge (b := 365) (by omega) (by omega)), cond_false, hs hd.1, r1, Vk_v, k_X11_agree_47, hs d1.1, nI_1]
    unfold agV
    cases e2 : decide (ansV I w q e (zS I) = 2) with
    | true =>
      simp only [cond_true, Bool.not_true, Bool.false_and, cond_false]
      exact agree_C H hk hu hq r (e + 1) m J1 K1 (by omega) d1
    | false =>
      obtain ⟨J2, K2, r2, d2⟩ := c_answerC (d := d) (n := n) (s := s) H hu hq (x := e) (by omega) hz d1
      rw [cond_false, r2, Vk_v, k_X11_agree_75, nI_1, nI_1]
      cases e3 : decide (ansV I w q e (zS I) = ansV I u q e (zS I)) with
      | true =>
        simp only [Bool.not_true, Bool.not_false, Bool.and_true, cond_true, cond_false]
        exact agree_C H hk hu hq r (e + 1) (m + 1) J2 K2 (by omega) d2
      | false =>
        simp only [Bool.not_false, Bool.and_false, cond_true, cond_false]
        exact agree_C H hk hu hq r (e + 1) m J2 K2 (by omega) d2
theorem agree_R (hT : RTold I) (hw : RWell I) (hv : RVein I) (hc : 487 ≤ c) {w u q : Nat} (hk : w < zW I) (hu : u < zW I) (hq : q < 7) (hQ : QOk I q) : ∀ r e m (J : FI), e + r = 365 → Off I J → ∃ J' : FI, Off I J' ∧ V PR (d + 5) 320 64 [(0, vR (some (186, 0))), (1, vi (nI w)), (2, vi (nI u)), (3, vi (nI q)), (4, vi (nI m)), (5, vi (nI e))] [] (mm n J L P E c s) = some (.inl (some (vi (agV (fun e => ansV I w q e (zS I)) (fun e => ansV I u q e (zS I)) e m r))), mm n J' L P E c s)
  | 0, e, m, J, he, hd => by
    refine ⟨J, hd, ?_⟩
    rw [k_X12_agree_64, show decide ((365 : Int32) ≤ nI e) = true from decide_eq_true (nI_le (a := 365) (by omega) (by omega)), cond_true]
    rfl
  | r + 1, e, m, J, he, hd => by
    have hs : ∀ {J : FI}, Off I J → J 190 0 4 = nI (zS I) := fun {J} h => (h 190 0 4 (by decide)).trans hT.2.2.2.2.1.1
    have h64 : 2 ^ zB I ≤ 2 ^ 6 := Nat.pow_le_pow_right (by decide) (zB_le hT)
    have hz := hT.2.2.2.2.1.2
    obtain ⟨J1, d1, r1⟩ := c_answer (d := d) (n := n) (L := L) (P := P) (E := E) (c := c) (s := s) hT hw hv hc hk hq hQ (x := e) (by omega) (st := zS I) (by omega) hd
    rw [k_X12_agree_64, show decide ((365 : Int32) ≤ nI e) = false from decide_eq_false (nI_ge (b := 365) (by omega) (by omega)), cond_false, hs hd, r1, Vk_v, k_X12_agree_86, hs d1, nI_1, add0_32]
    unfold agV
    cases e2 : decide (ansV I w q e (zS I) = 2) with
    | true =>
      simp only [cond_true, Bool.not_true, Bool.false_and, cond_false]
      exact agree_R hT hw hv hc hk hu hq hQ r (e + 1) m J1 (by omega) d1
    | false =>
      obtain ⟨J2, d2, r2⟩ := c_answer (d := d) (n := n) (L := L) (P := P) (E := E) (c := c) (s := s) hT hw hv hc hu hq hQ (x := e) (by omega) (st := zS I) (by omega) d1
      rw [cond_false, r2, Vk_v, k_X12_agree_112, nI_1, nI_1, add0_32]
      cases e3 : decide (ansV I w q e (zS I) = ansV I u q e (zS I)) with
      | true =>
        simp only [Bool.not_true, Bool.not_false, Bool.and_true, cond_true, cond_false]
        exact agree_R hT hw hv hc hk hu hq hQ r (e + 1) (m + 1) J2 (by omega) d2
      | false =>
        simp only [Bool.not_false, Bool.and_false, cond_true, cond_false]
        exact agree_R hT hw hv hc hk hu hq hQ r (e + 1) m J2 (by omega) d2
theorem ansV_k {I' : FI} (k : Kp c I I') (hc : 487 ≤ c) : ansV I' = ansV I := by
  funext w q x st
  unfold ansV
  rw [silB_k k hc, soB_k k hc, (kz k hc).2.2.2.1, lieB_k k hc]
  unfold knB
  simp only [k.at hc (a := 229) (by decide) (fun _ => rfl), k.at hc (a := 198) (by decide) (fun _ => rfl)]
theorem g_agree (h : Rl t I L P E c s) (hn : 6 * t + 6 ≤ n) (hN : n ≤ 3072) (ht : t ≤ 600) : LGo (d + 30) n t 46 I L P E c s := by
  refine en_46 h hn hN fun w u q hw' hu' hq ew eu eq h1 h2 h3 => ?_
  have H := h.cls ht
  obtain ⟨hT, hl, hw, hv, hb, hP, hc, -⟩ := id H
  obtain ⟨J, K, r1, r2⟩ := agree_C (d := d + 22) (n := n) (s := s) H hw' hu' (show q < 7 by omega) 365 0 0 I L rfl h.dy0
  have k := kp0 (c := c) r2.1
  have hTJ : RTold J := hT.keep r2.1.kp hc
  have eW : zW (up3 J 186 0 0 0) = zW I := (kz k hc).2.2.1
  have eS : zS (up3 J 186 0 0 0) = zS I := (kz k hc).2.2.2.2.1
  have hQ : QOk (up3 J 186 0 0 0) q := (hP.keep k Kp.rfl' (fun _ _ => rfl) hc (Nat.le_refl _)).q (by omega)
  have e0 : ∀ {b : Bool} {z : Int32}, inR z 0 (I 190 0 2 - 1) = b → inR z 0 (J 190 0 2 - 1) = b := fun h9 => by rw [r2.1 190 0 2 (by decide) (by decide) (by decide)]; exact h9
  have A : V PR (d + 28) 186 0 [(0, (vR (some (100, 0)))), (1, (vi (sc I t 1))), (2, (vi (sc I t 2))), (3, (vi (sc I t 3)))] [] (mm n I L P E c s) = some (.inl (some (vi (agV (fun e => ansV I w q e (zS I)) (fun e => ansV I u q e (zS I)) 0 0 365))), mm n J K P E c s) := by
    refine (cp_46 (d := d + 26) hT hl h1 h2 h3).trans ?_
    rw [ew, eu, eq, k_X11_agree_15]
    exact r1
  have B : ∀ lv, ∃ M, Off (up3 J 186 0 0 0) M ∧ V PR (d + 29) 320 0 [(0, (vR (some (186, 0)))), (1, (vi (sc I t 1))), (2, (vi (sc I t 2))), (3, (vi (sc I t 3)))] [] (mm n J (up3 K 486 0 0 lv) P E c s) = some (.inl (some (vi (agV (fun e => ansV I w q e (zS I)) (fun e => ansV I u q e (zS I)) 0 0 365))), mm n M (up3 K 486 0 0 lv) P E c s) := fun lv => by
    obtain ⟨M, m1, m2⟩ := agree_R (d := d + 24) (n := n) (L := up3 K 486 0 0 lv) (P := P) (E := E) (s := s) (hT.keep k hc) (hw.keep k hc) (hv.keep k hc) hc (w := w) (u := u) (by omega) (by omega) (show q < 7 by omega) hQ 365 0 0 _ rfl Off.rfl'
    rw [ansV_k k hc, eS] at m2
    refine ⟨M, m1, (rp_46 (d := d + 26) hTJ (e0 h1) (e0 h2) h3).trans ?_⟩
    rw [ew, eu, eq, k_X12_agree_53, d0t, cond_true]
    exact m2
  obtain ⟨M, m1, m2⟩ := B ((agV (fun e => ansV I w q e (zS I)) (fun e => ansV I u q e (zS I)) 0 0 365).toInt64)
  obtain ⟨f1, f2, f3, f4⟩ := h.fin r2 m1 ((agV (fun e => ansV I w q e (zS I)) (fun e => ansV I u q e (zS I)) 0 0 365).toInt64)
  exact ⟨_, _, P, E, c, s, ok_46 (d := d + 28) (I1 := J) _ hn hN f4 h.1.1 h.1.1 A m2 f2 f3, f1⟩
end Agree
