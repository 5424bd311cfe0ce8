/-! PROMISES 43, 31: parting, yes. -/
section Parting
variable {d n t : Nat} {I J : FI} {L K : FL} {P : FR} {E : FE} {c s : Nat}
theorem sayL_k {I' : FI} (k : Kp c I I') (hc : 487 ≤ c) : sayL I' = sayL I := by
  funext w q x what
  unfold sayL
  rw [ansV_k k hc, (kz k hc).2.2.2.2.2.2.2.2.2]
/-- days that part what is left, from a day on -/
def parV (f : Nat → Int64) (lv : Int64) : Nat → Nat → Nat → Int32
  | _, m, 0 => nI m
  | e, m, r + 1 => bif decide (f e &&& lv = 0) || decide (f e &&& lv = lv) then parV f lv (e + 1) m r else parV f lv (e + 1) (m + 1) r
theorem parting_C (H : Cls t I L P E c) {w q : Nat} (hk : w < zW I) (hq : q < 7) {lv : Int64} : ∀ r e m (J : FI) (K : FL), e + r = 365 → Dy t I L J K → ∃ (J' : FI) (K' : FL), V PR (d + 6) 184 21 [(0, vR (some (100, 0))), (1, vi (nI w)), (2, vi (nI q)), (3, vL lv), (5, vi (nI m)), (6, vi (nI e))] [] (mm n J K P E c s) = some (.inl (some (vi (parV (fun e => sayL I w q e 1) lv e m r))), mm n J' K' P E c s) ∧ Dy t I L J' K'
  | 0, e, m, J, K, he, hd => by
    refine ⟨J, K, ?_, hd⟩
    rw [k_X11_parting_21, show decide ((365 : Int32) ≤ nI e) = true from decide_eq_true (nI_le (a := 365) (by omega) (by omega)), cond_true]
    rfl
  | r + 1, e, m, J, K, he, hd => by
    obtain ⟨J1, K1, r1, d1⟩ := c_saying (d := d) (n := n) (s := s) H hk hq (x := e) (by omega) (v := 1) (by decide) hd
    rw [k_X11_parting_21, show decide ((365 : Int32) ≤ nI e) = false from decide_eq_false (nI_ge (b := 365) (by omega) (by omega)), cond_false, show (1 : Int32) = nI 1 from rfl, r1, Vk_v, k_X11_parting_41, nI_1, nI_1, lgc0, lgc0]
    unfold parV
    cases e2 : decide (sayL I w q e (nI 1) &&& lv = 0) with
    | true =>
      exact parting_C H hk hq r (e + 1) m J1 K1 (by omega) d1
    | false =>
      rw [cond_false, Bool.false_or]
      cases e3 : decide (sayL I w q e (nI 1) &&& lv = lv) with
      | true => exact parting_C H hk hq r (e + 1) m J1 K1 (by omega) d1
      | false => exact parting_C H hk hq r (e + 1) (m + 1) J1 K1 (by omega) d1
theorem parting_R (hT : RTold I) (hw : RWell I) (hv : RVein I) (hc : 487 ≤ c) {w q : Nat} (hk : w < zW I) (hq : q < 7) (hQ : QOk I q) {lv : Int64} : ∀ r e m (J : FI), e + r = 365 → Off I J → ∃ J' : FI, Off I J' ∧ V PR (d + 6) 317 61 [(0, vR (some (186, 0))), (1, vi (nI w)), (2, vi (nI q)), (3, vL lv), (5, vi (nI m)), (6, vi (nI e))] [] (mm n J L P E c s) = some (.inl (some (vi (parV (fun e => sayL I w q e 1) lv e m r))), mm n J' L P E c s)
  | 0, e, m, J, he, hd => by
    refine ⟨J, hd, ?_⟩
    rw [k_X12_parting_61, show decide ((365 : Int32) ≤ nI e) = true from decide_eq_true (nI_le (a := 365) (by omega) (by omega)), cond_true]
    rfl
  | r + 1, e, m, J, he, hd => by
    obtain ⟨J1, d1, r1⟩ := c_statesSaying (d := d) (n := n) (L := L) (P := P) (E := E) (c := c) (s := s) hT hw hv hc hk hq hQ (x := e) (by omega) 1 hd
    rw [k_X12_parting_61, show decide ((365 : Int32) ≤ nI e) = false from decide_eq_false (nI_ge (b := 365) (by omega) (by omega)), cond_false, r1, Vk_v, k_X12_parting_79, nI_1, nI_1, add0_32, lgc0, lgc0, and_comm64 lv]
    unfold parV
    cases e2 : decide (sayL I w q e 1 &&& lv = 0) with
    | true => exact parting_R hT hw hv hc hk hq hQ r (e + 1) m J1 (by omega) d1
    | false =>
      rw [cond_false, Bool.false_or]
      cases e3 : decide (sayL I w q e 1 &&& lv = lv) with
      | true => exact parting_R hT hw hv hc hk hq hQ r (e + 1) m J1 (by omega) d1
      | false => exact parting_R hT hw hv hc hk hq hQ r (e + 1) (m + 1) J1 (by omega) d1
theorem g_parting (h : Rl t I L P E c s) (hn : 6 * t + 6 ≤ n) (hN : n ≤ 3072) (ht : t ≤ 600) : LGo (d + 30) n t 43 I L P E c s := by
  refine en_43 h hn hN fun w q hw' hq ew eq h1 h2 => ?_
  have H := h.cls ht
  obtain ⟨hT, hl, hw, hv, hb, hP, hc, -⟩ := id H
  have hd : RDia I L := h.2.2.2.2.2.2.1
  obtain ⟨J, K, r1, r2⟩ := parting_C (d := d + 22) (n := n) (s := s) H hw' (show q < 7 by omega) (lv := lefV I L (-1) (zA I)) 365 0 0 I L rfl h.dy0
  have kk : Kp c L K := r2.2.1.kp
  have k := kp0 (c := c) r2.1
  have hTJ : RTold J := hT.keep r2.1.kp hc
  have eW : zW (up3 J 186 0 0 0) = zW I := (kz k hc).2.2.1
  have hQ : QOk (up3 J 186 0 0 0) q := (hP.keep k Kp.rfl' (fun _ _ => rfl) hc (Nat.le_refl _)).q (by omega)
  have e0 : ∀ {b : Bool} {z : Int32}, inR z 0 (I 190 0 2 - 1) = b → inR z 0 (J 190 0 2 - 1) = b := fun h9 => by rw [r2.1 190 0 2 (by decide) (by decide) (by decide)]; exact h9
  have A : V PR (d + 28) 184 0 [(0, (vR (some (100, 0)))), (1, (vi (sc I t 1))), (2, (vi (sc I t 2)))] [] (mm n I L P E c s) = some (.inl (some (vi (parV (fun e => sayL I w q e 1) (lefV I L (-1) (zA I)) 0 0 365))), mm n J K P E c s) := by
    refine (cp_43 (d := d + 26) hT hl h1 h2).trans ?_
    rw [ew, eq, k_X11_parting_10, c_statesLeft hT hl hd, Vk_v, k_X11_parting_14]
    exact r1
  have B : ∀ lv, ∃ M, Off (up3 J 186 0 0 0) M ∧ V PR (d + 29) 317 0 [(0, (vR (some (186, 0)))), (1, (vi (sc I t 1))), (2, (vi (sc I t 2)))] [] (mm n J (up3 K 486 0 0 lv) P E c s) = some (.inl (some (vi (parV (fun e => sayL I w q e 1) (lefV I L (-1) (zA I)) 0 0 365))), mm n M (up3 K 486 0 0 lv) P E c s) := fun lv => by
    have kl : Kp c L (up3 K 486 0 0 lv) := Kp.tr kk (Kp.rfl'.up rfl) (Nat.le_refl _)
    have e2 : lefV (up3 J 186 0 0 0) (up3 K 486 0 0 lv) (-1) (zA (up3 J 186 0 0 0)) = lefV I L (-1) (zA I) := by rw [lef_k k kl hc, (kz k hc).2.2.2.2.2.1]
    obtain ⟨M, m1, m2⟩ := parting_R (d := d + 23) (n := n) (L := up3 K 486 0 0 lv) (P := P) (E := E) (s := s) (hT.keep k hc) (hw.keep k hc) (hv.keep k hc) hc (w := w) (by omega) (show q < 7 by omega) hQ (lv := lefV I L (-1) (zA I)) 365 0 0 _ rfl Off.rfl'
    rw [sayL_k k hc] at m2
    refine ⟨M, m1, (rp_43 (d := d + 26) hTJ (e0 h1) h2).trans ?_⟩
    rw [ew, eq, k_X12_parting_45, d0t, cond_true, c_leftNow (hT.keep k hc) (hd.keep k kl hc), Vk_v, k_X12_parting_54, e2]
    exact m2
  obtain ⟨M, m1, m2⟩ := B ((parV (fun e => sayL I w q e 1) (lefV I L (-1) (zA I)) 0 0 365).toInt64)
  obtain ⟨f1, f2, f3, f4⟩ := h.fin r2 m1 ((parV (fun e => sayL I w q e 1) (lefV I L (-1) (zA I)) 0 0 365).toInt64)
  exact ⟨_, _, P, E, c, s, ok_43 (d := d + 28) (I1 := J) _ hn hN f4 h.1.1 h.1.1 A m2 f2 f3, f1⟩
end Parting
